def setB (z : Nat → Int) (b : Nat) (v : Nat → Int) : Nat → Int := fun k => if 9 * b ≤ k ∧ k < 9 * b + 9 then v (k - 9 * b) else z k
theorem setB_in {z v : Nat → Int} {b i : Nat} (h : i < 9) : setB z b v (9 * b + i) = v i := by
  unfold setB; rw [if_pos (by omega), Nat.add_sub_cancel_left]
theorem setB_out {z v : Nat → Int} {b k : Nat} (h : ¬ (9 * b ≤ k ∧ k < 9 * b + 9)) : setB z b v k = z k := by unfold setB; rw [if_neg h]
def blB (z : Nat → Int) (b : Nat) : Nat → Int := fun i => z (9 * b + i)
/-- the nine numbers: 0 unit, 1 l00, 2 l01, 3 l11, 4 det, 5 v0, 6 v1, 7 c0, 8 c1 -/
def blankV : Nat → Int := fun i => match i with
  | 0 => 1
  | _ => 0
def estV (m0 m1 a b c : Int) : Nat → Int := fun i => match i with
  | 0 => a * c - b * b
  | 1 => c
  | 2 => -b
  | 3 => a
  | 4 => 1
  | 5 => c * m0 - b * m1
  | 6 => a * m1 - b * m0
  | 7 => m0
  | _ => m1
def learnV (u : Nat → Int) (h0 h1 r x : Int) : Nat → Int := fun i => match i with
  | 0 => u 0 * r
  | 1 => u 1 * r + u 0 * (h0 * h0)
  | 2 => u 2 * r + u 0 * (h0 * h1)
  | 3 => u 3 * r + u 0 * (h1 * h1)
  | 4 => u 4 * r + u 1 * (h1 * h1) + u 3 * (h0 * h0) + u 2 * (-2 * h0 * h1)
  | 5 => u 5 * r + u 0 * (x * h0)
  | 6 => u 6 * r + u 0 * (x * h1)
  | 7 => u 7 * r + u 3 * (x * h0) + u 2 * (-x * h1) + u 5 * (h1 * h1) + u 6 * (-h0 * h1)
  | _ => u 8 * r + u 1 * (x * h1) + u 2 * (-x * h0) + u 6 * (h0 * h0) + u 5 * (-h0 * h1)
def noiseV (u : Nat → Int) (q0 q1 q2 : Int) : Nat → Int := fun i => match i with
  | 0 => u 0 + u 1 * q0 + u 3 * q2 + u 2 * (2 * q1) + u 4 * (q0 * q2 - q1 * q1)
  | 1 => u 1 + u 4 * q2
  | 2 => u 2 + u 4 * (-q1)
  | 3 => u 3 + u 4 * q0
  | 4 => u 4
  | 5 => u 5 + u 7 * q2 + u 8 * (-q1)
  | 6 => u 6 + u 8 * q0 + u 7 * (-q1)
  | 7 => u 7
  | _ => u 8
def turnV (x u : Nat → Int) (g0 g1 g2 g3 : Int) : Nat → Int := fun i => match i with
  | 0 => x 0
  | 1 => u 1 * (g0 * g0) + u 2 * (2 * g0 * g2) + u 3 * (g2 * g2)
  | 2 => u 1 * (g0 * g1) + u 2 * (g0 * g3 + g1 * g2) + u 3 * (g2 * g3)
  | 3 => u 1 * (g1 * g1) + u 2 * (2 * g1 * g3) + u 3 * (g3 * g3)
  | 4 => x 4
  | 5 => u 5 * g0 + u 6 * g2
  | 6 => u 5 * g1 + u 6 * g3
  | 7 => u 7 * g3 + u 8 * (-g1)
  | _ => u 8 * g0 + u 7 * (-g2)
def scaleV (x u : Nat → Int) (a d : Int) : Nat → Int := fun i => match i with
  | 0 => u 0 * (a * a)
  | 1 => x 1
  | 2 => x 2
  | 3 => x 3
  | 4 => u 4 * (d * d)
  | 5 => x 5 * a
  | 6 => x 6 * a
  | 7 => x 7 * d
  | _ => x 8 * d
def joinV (x u v : Nat → Int) : Nat → Int := fun i => match i with
  | 0 => x 0
  | 1 => u 1 * v 0 + v 1 * u 0
  | 2 => u 2 * v 0 + v 2 * u 0
  | 3 => u 3 * v 0 + v 3 * u 0
  | 4 => (u 2 * v 2 + u 2 * v 2) * -1 + u 1 * v 3 + u 3 * v 1 + u 4 * v 0 + v 4 * u 0
  | 5 => x 5
  | 6 => x 6
  | 7 => (u 2 * v 6 + v 2 * u 6) * -1 + u 3 * v 5 + v 3 * u 5 + u 7 * v 0 + v 7 * u 0
  | _ => (u 2 * v 5 + v 2 * u 5) * -1 + u 1 * v 6 + v 1 * u 6 + u 8 * v 0 + v 8 * u 0
set_option maxRecDepth 100000 in
set_option maxHeartbeats 4000000 in
theorem c_B_setBlank (l : Launch) (D : va_G) (cs : Nat → ClassId) (ad : Nat → Nat → Nat) (O P : Nat → Nat → Int) (z : Nat → Int) (b : Nat) (hb : b < 13) : Ct (S := Unit) l D (tyL cs) y_B_setBlank b_B_setBlank 1 none (rm 2) [.ref (ad 2 b)] (wO ad cs O P z) (fun _ => True) (fun _ => none) (fun _ => wO ad cs O P (setB z b (blankV))) := by
  refine Ct.introV (by decide) (Nat.le_of_ble_eq_true rfl) (fun _ => rfl) ?_
  intro p e s m below meth c A args Q H locs X hnm hw kr ls hl
  have X : CX D (tyL cs) R_B b_B_setBlank 1 p m c s args := X
  have hl : lv_has ls 1 [(0, .ref (ad 2 b))] := hl
  obtain ⟨u0, hu0⟩ : ∃ g, z (9 * b + 0) = g := ⟨_, rfl⟩
  obtain ⟨u1, hu1⟩ : ∃ g, z (9 * b + 1) = g := ⟨_, rfl⟩
  obtain ⟨u2, hu2⟩ : ∃ g, z (9 * b + 2) = g := ⟨_, rfl⟩
  obtain ⟨u3, hu3⟩ : ∃ g, z (9 * b + 3) = g := ⟨_, rfl⟩
  obtain ⟨u4, hu4⟩ : ∃ g, z (9 * b + 4) = g := ⟨_, rfl⟩
  obtain ⟨u5, hu5⟩ : ∃ g, z (9 * b + 5) = g := ⟨_, rfl⟩
  obtain ⟨u6, hu6⟩ : ∃ g, z (9 * b + 6) = g := ⟨_, rfl⟩
  obtain ⟨u7, hu7⟩ : ∃ g, z (9 * b + 7) = g := ⟨_, rfl⟩
  obtain ⟨u8, hu8⟩ : ∃ g, z (9 * b + 8) = g := ⟨_, rfl⟩
  refine sy_aload_n X d_B_setBlank_0 hl 0 rfl ?_
  refine b_get [] X hw 0 hb (by decide) (tt_of k115 rfl) d_B_setBlank_1 ?_
  refine sy_iconst X d_B_setBlank_4 ?_
  refine call_Vv (Xs := XC ad O P) (b := ad 0 (9 * b + 0)) (As := [.int (iI 1)]) (rest := []) X lk_B_40 (c_W_set l D cs ad z (9 * b + 0) 1 (by omega) ⟨by decide, by decide⟩) ⟨by decide, by decide⟩ (rcv_Z (by omega)) hw rfl hl.1 (Nat.le_of_ble_eq_true rfl) d_B_setBlank_5 rfl rfl ⟨Nat.zero_le _, Nat.zero_le _⟩ (fun _ H locs _ hw => ?_)
  obtain ⟨z1, ez1⟩ : ∃ g, g = up1 z (9 * b + 0) (1) := ⟨_, rfl⟩
  rw [← ez1] at hw
  have fr1 : ∀ j, j ≠ (9 * b + 0) → z1 j = z j := fun j h0 => by rw [ez1, up1_n _ h0]
  obtain ⟨w_1, ew_1⟩ : ∃ g : Int, g = 1 := ⟨_, rfl⟩
  have hv_2 : z1 (9 * b + 0) = w_1 := by rw [ez1, up1_s, ew_1]
  refine sy_aload_n X d_B_setBlank_8 hl 0 rfl ?_
  refine b_get [] X hw 1 hb (by decide) (tt_of k116 rfl) d_B_setBlank_9 ?_
  refine sy_iconst X d_B_setBlank_12 ?_
  refine call_Vv (Xs := XC ad O P) (b := ad 0 (9 * b + 1)) (As := [.int (iI 0)]) (rest := []) X lk_B_40 (c_W_set l D cs ad z1 (9 * b + 1) 0 (by omega) ⟨by decide, by decide⟩) ⟨by decide, by decide⟩ (rcv_Z (by omega)) hw rfl hl.1 (Nat.le_of_ble_eq_true rfl) d_B_setBlank_13 rfl rfl ⟨Nat.zero_le _, Nat.zero_le _⟩ (fun _ H locs _ hw => ?_)
  obtain ⟨z2, ez2⟩ : ∃ g, g = up1 z1 (9 * b + 1) (0) := ⟨_, rfl⟩
  rw [← ez2] at hw
  have fr2 : ∀ j, j ≠ (9 * b + 1) → z2 j = z1 j := fun j h0 => by rw [ez2, up1_n _ h0]
  obtain ⟨w_3, ew_3⟩ : ∃ g : Int, g = 0 := ⟨_, rfl⟩
  have hv_4 : z2 (9 * b + 1) = w_3 := by rw [ez2, up1_s, ew_3]
  refine sy_aload_n X d_B_setBlank_16 hl 0 rfl ?_
  refine b_get [] X hw 2 hb (by decide) (tt_of k117 rfl) d_B_setBlank_17 ?_
  refine sy_iconst X d_B_setBlank_20 ?_
  refine call_Vv (Xs := XC ad O P) (b := ad 0 (9 * b + 2)) (As := [.int (iI 0)]) (rest := []) X lk_B_40 (c_W_set l D cs ad z2 (9 * b + 2) 0 (by omega) ⟨by decide, by decide⟩) ⟨by decide, by decide⟩ (rcv_Z (by omega)) hw rfl hl.1 (Nat.le_of_ble_eq_true rfl) d_B_setBlank_21 rfl rfl ⟨Nat.zero_le _, Nat.zero_le _⟩ (fun _ H locs _ hw => ?_)
  obtain ⟨z3, ez3⟩ : ∃ g, g = up1 z2 (9 * b + 2) (0) := ⟨_, rfl⟩
  rw [← ez3] at hw
  have fr3 : ∀ j, j ≠ (9 * b + 2) → z3 j = z2 j := fun j h0 => by rw [ez3, up1_n _ h0]
  obtain ⟨w_5, ew_5⟩ : ∃ g : Int, g = 0 := ⟨_, rfl⟩
  have hv_6 : z3 (9 * b + 2) = w_5 := by rw [ez3, up1_s, ew_5]
  refine sy_aload_n X d_B_setBlank_24 hl 0 rfl ?_
  refine b_get [] X hw 3 hb (by decide) (tt_of k118 rfl) d_B_setBlank_25 ?_
  refine sy_iconst X d_B_setBlank_28 ?_
  refine call_Vv (Xs := XC ad O P) (b := ad 0 (9 * b + 3)) (As := [.int (iI 0)]) (rest := []) X lk_B_40 (c_W_set l D cs ad z3 (9 * b + 3) 0 (by omega) ⟨by decide, by decide⟩) ⟨by decide, by decide⟩ (rcv_Z (by omega)) hw rfl hl.1 (Nat.le_of_ble_eq_true rfl) d_B_setBlank_29 rfl rfl ⟨Nat.zero_le _, Nat.zero_le _⟩ (fun _ H locs _ hw => ?_)
  obtain ⟨z4, ez4⟩ : ∃ g, g = up1 z3 (9 * b + 3) (0) := ⟨_, rfl⟩
  rw [← ez4] at hw
  have fr4 : ∀ j, j ≠ (9 * b + 3) → z4 j = z3 j := fun j h0 => by rw [ez4, up1_n _ h0]
  obtain ⟨w_7, ew_7⟩ : ∃ g : Int, g = 0 := ⟨_, rfl⟩
  have hv_8 : z4 (9 * b + 3) = w_7 := by rw [ez4, up1_s, ew_7]
  refine sy_aload_n X d_B_setBlank_32 hl 0 rfl ?_
  refine b_get [] X hw 4 hb (by decide) (tt_of k119 rfl) d_B_setBlank_33 ?_
  refine sy_iconst X d_B_setBlank_36 ?_
  refine call_Vv (Xs := XC ad O P) (b := ad 0 (9 * b + 4)) (As := [.int (iI 0)]) (rest := []) X lk_B_40 (c_W_set l D cs ad z4 (9 * b + 4) 0 (by omega) ⟨by decide, by decide⟩) ⟨by decide, by decide⟩ (rcv_Z (by omega)) hw rfl hl.1 (Nat.le_of_ble_eq_true rfl) d_B_setBlank_37 rfl rfl ⟨Nat.zero_le _, Nat.zero_le _⟩ (fun _ H locs _ hw => ?_)
  obtain ⟨z5, ez5⟩ : ∃ g, g = up1 z4 (9 * b + 4) (0) := ⟨_, rfl⟩
  rw [← ez5] at hw
  have fr5 : ∀ j, j ≠ (9 * b + 4) → z5 j = z4 j := fun j h0 => by rw [ez5, up1_n _ h0]
  obtain ⟨w_9, ew_9⟩ : ∃ g : Int, g = 0 := ⟨_, rfl⟩
  have hv_10 : z5 (9 * b + 4) = w_9 := by rw [ez5, up1_s, ew_9]
  refine sy_aload_n X d_B_setBlank_40 hl 0 rfl ?_
  refine b_get [] X hw 5 hb (by decide) (tt_of k121 rfl) d_B_setBlank_41 ?_
  refine sy_iconst X d_B_setBlank_44 ?_
  refine call_Vv (Xs := XC ad O P) (b := ad 0 (9 * b + 5)) (As := [.int (iI 0)]) (rest := []) X lk_B_40 (c_W_set l D cs ad z5 (9 * b + 5) 0 (by omega) ⟨by decide, by decide⟩) ⟨by decide, by decide⟩ (rcv_Z (by omega)) hw rfl hl.1 (Nat.le_of_ble_eq_true rfl) d_B_setBlank_45 rfl rfl ⟨Nat.zero_le _, Nat.zero_le _⟩ (fun _ H locs _ hw => ?_)
  obtain ⟨z6, ez6⟩ : ∃ g, g = up1 z5 (9 * b + 5) (0) := ⟨_, rfl⟩
  rw [← ez6] at hw
  have fr6 : ∀ j, j ≠ (9 * b + 5) → z6 j = z5 j := fun j h0 => by rw [ez6, up1_n _ h0]
  obtain ⟨w_11, ew_11⟩ : ∃ g : Int, g = 0 := ⟨_, rfl⟩
  have hv_12 : z6 (9 * b + 5) = w_11 := by rw [ez6, up1_s, ew_11]
  refine sy_aload_n X d_B_setBlank_48 hl 0 rfl ?_
  refine b_get [] X hw 6 hb (by decide) (tt_of k122 rfl) d_B_setBlank_49 ?_
  refine sy_iconst X d_B_setBlank_52 ?_
  refine call_Vv (Xs := XC ad O P) (b := ad 0 (9 * b + 6)) (As := [.int (iI 0)]) (rest := []) X lk_B_40 (c_W_set l D cs ad z6 (9 * b + 6) 0 (by omega) ⟨by decide, by decide⟩) ⟨by decide, by decide⟩ (rcv_Z (by omega)) hw rfl hl.1 (Nat.le_of_ble_eq_true rfl) d_B_setBlank_53 rfl rfl ⟨Nat.zero_le _, Nat.zero_le _⟩ (fun _ H locs _ hw => ?_)
  obtain ⟨z7, ez7⟩ : ∃ g, g = up1 z6 (9 * b + 6) (0) := ⟨_, rfl⟩
  rw [← ez7] at hw
  have fr7 : ∀ j, j ≠ (9 * b + 6) → z7 j = z6 j := fun j h0 => by rw [ez7, up1_n _ h0]
  obtain ⟨w_13, ew_13⟩ : ∃ g : Int, g = 0 := ⟨_, rfl⟩
  have hv_14 : z7 (9 * b + 6) = w_13 := by rw [ez7, up1_s, ew_13]
  refine sy_aload_n X d_B_setBlank_56 hl 0 rfl ?_
  refine b_get [] X hw 7 hb (by decide) (tt_of k123 rfl) d_B_setBlank_57 ?_
  refine sy_iconst X d_B_setBlank_60 ?_
  refine call_Vv (Xs := XC ad O P) (b := ad 0 (9 * b + 7)) (As := [.int (iI 0)]) (rest := []) X lk_B_40 (c_W_set l D cs ad z7 (9 * b + 7) 0 (by omega) ⟨by decide, by decide⟩) ⟨by decide, by decide⟩ (rcv_Z (by omega)) hw rfl hl.1 (Nat.le_of_ble_eq_true rfl) d_B_setBlank_61 rfl rfl ⟨Nat.zero_le _, Nat.zero_le _⟩ (fun _ H locs _ hw => ?_)
  obtain ⟨z8, ez8⟩ : ∃ g, g = up1 z7 (9 * b + 7) (0) := ⟨_, rfl⟩
  rw [← ez8] at hw
  have fr8 : ∀ j, j ≠ (9 * b + 7) → z8 j = z7 j := fun j h0 => by rw [ez8, up1_n _ h0]
  obtain ⟨w_15, ew_15⟩ : ∃ g : Int, g = 0 := ⟨_, rfl⟩
  have hv_16 : z8 (9 * b + 7) = w_15 := by rw [ez8, up1_s, ew_15]
  refine sy_aload_n X d_B_setBlank_64 hl 0 rfl ?_
  refine b_get [] X hw 8 hb (by decide) (tt_of k125 rfl) d_B_setBlank_65 ?_
  refine sy_iconst X d_B_setBlank_68 ?_
  refine call_Vv (Xs := XC ad O P) (b := ad 0 (9 * b + 8)) (As := [.int (iI 0)]) (rest := []) X lk_B_40 (c_W_set l D cs ad z8 (9 * b + 8) 0 (by omega) ⟨by decide, by decide⟩) ⟨by decide, by decide⟩ (rcv_Z (by omega)) hw rfl hl.1 (Nat.le_of_ble_eq_true rfl) d_B_setBlank_69 rfl rfl ⟨Nat.zero_le _, Nat.zero_le _⟩ (fun _ H locs _ hw => ?_)
  obtain ⟨z9, ez9⟩ : ∃ g, g = up1 z8 (9 * b + 8) (0) := ⟨_, rfl⟩
  rw [← ez9] at hw
  have fr9 : ∀ j, j ≠ (9 * b + 8) → z9 j = z8 j := fun j h0 => by rw [ez9, up1_n _ h0]
  obtain ⟨w_17, ew_17⟩ : ∃ g : Int, g = 0 := ⟨_, rfl⟩
  have hv_18 : z9 (9 * b + 8) = w_17 := by rw [ez9, up1_s, ew_17]
  have hv_19 : z9 (9 * b + 0) = w_1 := (fr9 (9 * b + 0) (by omega)).trans ((fr8 (9 * b + 0) (by omega)).trans ((fr7 (9 * b + 0) (by omega)).trans ((fr6 (9 * b + 0) (by omega)).trans ((fr5 (9 * b + 0) (by omega)).trans ((fr4 (9 * b + 0) (by omega)).trans ((fr3 (9 * b + 0) (by omega)).trans ((fr2 (9 * b + 0) (by omega)).trans (hv_2))))))))
  have hv_20 : z9 (9 * b + 1) = w_3 := (fr9 (9 * b + 1) (by omega)).trans ((fr8 (9 * b + 1) (by omega)).trans ((fr7 (9 * b + 1) (by omega)).trans ((fr6 (9 * b + 1) (by omega)).trans ((fr5 (9 * b + 1) (by omega)).trans ((fr4 (9 * b + 1) (by omega)).trans ((fr3 (9 * b + 1) (by omega)).trans (hv_4)))))))
  have hv_21 : z9 (9 * b + 2) = w_5 := (fr9 (9 * b + 2) (by omega)).trans ((fr8 (9 * b + 2) (by omega)).trans ((fr7 (9 * b + 2) (by omega)).trans ((fr6 (9 * b + 2) (by omega)).trans ((fr5 (9 * b + 2) (by omega)).trans ((fr4 (9 * b + 2) (by omega)).trans (hv_6))))))
  have hv_22 : z9 (9 * b + 3) = w_7 := (fr9 (9 * b + 3) (by omega)).trans ((fr8 (9 * b + 3) (by omega)).trans ((fr7 (9 * b + 3) (by omega)).trans ((fr6 (9 * b + 3) (by omega)).trans ((fr5 (9 * b + 3) (by omega)).trans (hv_8)))))
  have hv_23 : z9 (9 * b + 4) = w_9 := (fr9 (9 * b + 4) (by omega)).trans ((fr8 (9 * b + 4) (by omega)).trans ((fr7 (9 * b + 4) (by omega)).trans ((fr6 (9 * b + 4) (by omega)).trans (hv_10))))
  have hv_24 : z9 (9 * b + 5) = w_11 := (fr9 (9 * b + 5) (by omega)).trans ((fr8 (9 * b + 5) (by omega)).trans ((fr7 (9 * b + 5) (by omega)).trans (hv_12)))
  have hv_25 : z9 (9 * b + 6) = w_13 := (fr9 (9 * b + 6) (by omega)).trans ((fr8 (9 * b + 6) (by omega)).trans (hv_14))
  have hv_26 : z9 (9 * b + 7) = w_15 := (fr9 (9 * b + 7) (by omega)).trans (hv_16)
  have hzf : z9 = setB z b (blankV) := by
    funext j
    by_cases hj : 9 * b ≤ j ∧ j < 9 * b + 9
    · obtain ⟨i9, hi9⟩ : ∃ i9, j = 9 * b + i9 ∧ i9 < 9 := ⟨j - 9 * b, by omega⟩
      obtain ⟨hij, hi9⟩ := hi9
      subst hij
      rw [setB_in hi9]
      have h9 : i9 = 0 ∨ i9 = 1 ∨ i9 = 2 ∨ i9 = 3 ∨ i9 = 4 ∨ i9 = 5 ∨ i9 = 6 ∨ i9 = 7 ∨ i9 = 8 := by omega
      rcases h9 with e9 | e9 | e9 | e9 | e9 | e9 | e9 | e9 | e9 <;> subst e9
      · rw [hv_19]; simp only [blankV, blB, hu0, hu1, hu2, hu3, hu4, hu5, hu6, hu7, hu8, ew_17, ew_15, ew_13, ew_11, ew_9, ew_7, ew_5, ew_3, ew_1]
      · rw [hv_20]; simp only [blankV, blB, hu0, hu1, hu2, hu3, hu4, hu5, hu6, hu7, hu8, ew_17, ew_15, ew_13, ew_11, ew_9, ew_7, ew_5, ew_3, ew_1]
      · rw [hv_21]; simp only [blankV, blB, hu0, hu1, hu2, hu3, hu4, hu5, hu6, hu7, hu8, ew_17, ew_15, ew_13, ew_11, ew_9, ew_7, ew_5, ew_3, ew_1]
      · rw [hv_22]; simp only [blankV, blB, hu0, hu1, hu2, hu3, hu4, hu5, hu6, hu7, hu8, ew_17, ew_15, ew_13, ew_11, ew_9, ew_7, ew_5, ew_3, ew_1]
      · rw [hv_23]; simp only [blankV, blB, hu0, hu1, hu2, hu3, hu4, hu5, hu6, hu7, hu8, ew_17, ew_15, ew_13, ew_11, ew_9, ew_7, ew_5, ew_3, ew_1]
      · rw [hv_24]; simp only [blankV, blB, hu0, hu1, hu2, hu3, hu4, hu5, hu6, hu7, hu8, ew_17, ew_15, ew_13, ew_11, ew_9, ew_7, ew_5, ew_3, ew_1]
      · rw [hv_25]; simp only [blankV, blB, hu0, hu1, hu2, hu3, hu4, hu5, hu6, hu7, hu8, ew_17, ew_15, ew_13, ew_11, ew_9, ew_7, ew_5, ew_3, ew_1]
      · rw [hv_26]; simp only [blankV, blB, hu0, hu1, hu2, hu3, hu4, hu5, hu6, hu7, hu8, ew_17, ew_15, ew_13, ew_11, ew_9, ew_7, ew_5, ew_3, ew_1]
      · rw [hv_18]; simp only [blankV, blB, hu0, hu1, hu2, hu3, hu4, hu5, hu6, hu7, hu8, ew_17, ew_15, ew_13, ew_11, ew_9, ew_7, ew_5, ew_3, ew_1]
    · rw [setB_out hj]; exact (fr9 j (by omega)).trans ((fr8 j (by omega)).trans ((fr7 j (by omega)).trans ((fr6 j (by omega)).trans ((fr5 j (by omega)).trans ((fr4 j (by omega)).trans ((fr3 j (by omega)).trans ((fr2 j (by omega)).trans ((fr1 j (by omega)).trans (rfl)))))))))
  rw [hzf] at hw
  exact kr () _ _ _ _ d_B_setBlank_72 hw trivial
set_option maxRecDepth 100000 in
set_option maxHeartbeats 4000000 in
theorem c_B_setEstimate (l : Launch) (D : va_G) (cs : Nat → ClassId) (ad : Nat → Nat → Nat) (O P : Nat → Nat → Int) (z : Nat → Int) (b : Nat) (m0 m1 p0 p1 p2 : Int) (hb : b < 13) (k0 : -99 ≤ m0 ∧ m0 ≤ 99) (k1 : -99 ≤ m1 ∧ m1 ≤ 99) (k2 : -99 ≤ p0 ∧ p0 ≤ 99) (k3 : -99 ≤ p1 ∧ p1 ≤ 99) (k4 : -99 ≤ p2 ∧ p2 ≤ 99) : Ct (S := Unit) l D (tyL cs) y_B_setEstimate b_B_setEstimate 6 none (rm 2) [.ref (ad 2 b), .int (iI m0), .int (iI m1), .int (iI p0), .int (iI p1), .int (iI p2)] (wO ad cs O P z) (fun _ => True) (fun _ => none) (fun _ => wO ad cs O P (setB z b (estV m0 m1 p0 p1 p2))) := by
  refine Ct.introV (by decide) (Nat.le_of_ble_eq_true rfl) (fun _ => rfl) ?_
  intro p e s m below meth c A args Q H locs X hnm hw kr ls hl
  have X : CX D (tyL cs) R_B b_B_setEstimate 6 p m c s args := X
  have hl : lv_has ls 6 [(0, .ref (ad 2 b)), (1, .int (iI m0)), (2, .int (iI m1)), (3, .int (iI p0)), (4, .int (iI p1)), (5, .int (iI p2))] := hl
  obtain ⟨u0, hu0⟩ : ∃ g, z (9 * b + 0) = g := ⟨_, rfl⟩
  obtain ⟨u1, hu1⟩ : ∃ g, z (9 * b + 1) = g := ⟨_, rfl⟩
  obtain ⟨u2, hu2⟩ : ∃ g, z (9 * b + 2) = g := ⟨_, rfl⟩
  obtain ⟨u3, hu3⟩ : ∃ g, z (9 * b + 3) = g := ⟨_, rfl⟩
  obtain ⟨u4, hu4⟩ : ∃ g, z (9 * b + 4) = g := ⟨_, rfl⟩
  obtain ⟨u5, hu5⟩ : ∃ g, z (9 * b + 5) = g := ⟨_, rfl⟩
  obtain ⟨u6, hu6⟩ : ∃ g, z (9 * b + 6) = g := ⟨_, rfl⟩
  obtain ⟨u7, hu7⟩ : ∃ g, z (9 * b + 7) = g := ⟨_, rfl⟩
  obtain ⟨u8, hu8⟩ : ∃ g, z (9 * b + 8) = g := ⟨_, rfl⟩
  have y1 := mul99 k2 k4
  have y2 := mul99 k3 k3
  have y3 := mul99 k4 k0
  have y4 := mul99 k3 k1
  have y5 := mul99 k2 k1
  have y6 := mul99 k3 k0
  refine sy_aload_n X d_B_setEstimate_0 hl 0 rfl ?_
  refine b_get [] X hw 0 hb (by decide) (tt_of k115 rfl) d_B_setEstimate_1 ?_
  refine sy_iload_n X d_B_setEstimate_4 hl 3 rfl ?_
  refine sy_iload X d_B_setEstimate_5 hl 5 rfl ?_
  refine sy_imul X d_B_setEstimate_7 ?_
  refine sy_iload X d_B_setEstimate_8 hl 4 rfl ?_
  refine sy_iload X d_B_setEstimate_10 hl 4 rfl ?_
  refine sy_imul X d_B_setEstimate_12 ?_
  refine sy_isub X d_B_setEstimate_13 ?_
  refine call_Vv (Xs := XC ad O P) (b := ad 0 (9 * b + 0)) (As := [.int (iI ((p0 * p2) - (p1 * p1)))]) (rest := []) X lk_B_40 (c_W_set l D cs ad z (9 * b + 0) ((p0 * p2) - (p1 * p1)) (by omega) ⟨by omega, by omega⟩) ⟨by decide, by decide⟩ (rcv_Z (by omega)) hw rfl hl.1 (Nat.le_of_ble_eq_true rfl) d_B_setEstimate_14 rfl rfl ⟨Nat.zero_le _, Nat.zero_le _⟩ (fun _ H locs _ hw => ?_)
  obtain ⟨z1, ez1⟩ : ∃ g, g = up1 z (9 * b + 0) (((p0 * p2) - (p1 * p1))) := ⟨_, rfl⟩
  rw [← ez1] at hw
  have fr1 : ∀ j, j ≠ (9 * b + 0) → z1 j = z j := fun j h0 => by rw [ez1, up1_n _ h0]
  obtain ⟨w_1, ew_1⟩ : ∃ g : Int, g = ((p0 * p2) - (p1 * p1)) := ⟨_, rfl⟩
  have hv_2 : z1 (9 * b + 0) = w_1 := by rw [ez1, up1_s, ew_1]
  refine sy_aload_n X d_B_setEstimate_17 hl 0 rfl ?_
  refine b_get [] X hw 1 hb (by decide) (tt_of k116 rfl) d_B_setEstimate_18 ?_
  refine sy_iload X d_B_setEstimate_21 hl 5 rfl ?_
  refine call_Vv (Xs := XC ad O P) (b := ad 0 (9 * b + 1)) (As := [.int (iI p2)]) (rest := []) X lk_B_40 (c_W_set l D cs ad z1 (9 * b + 1) p2 (by omega) ⟨by omega, by omega⟩) ⟨by decide, by decide⟩ (rcv_Z (by omega)) hw rfl hl.1 (Nat.le_of_ble_eq_true rfl) d_B_setEstimate_23 rfl rfl ⟨Nat.zero_le _, Nat.zero_le _⟩ (fun _ H locs _ hw => ?_)
  obtain ⟨z2, ez2⟩ : ∃ g, g = up1 z1 (9 * b + 1) (p2) := ⟨_, rfl⟩
  rw [← ez2] at hw
  have fr2 : ∀ j, j ≠ (9 * b + 1) → z2 j = z1 j := fun j h0 => by rw [ez2, up1_n _ h0]
  obtain ⟨w_3, ew_3⟩ : ∃ g : Int, g = p2 := ⟨_, rfl⟩
  have hv_4 : z2 (9 * b + 1) = w_3 := by rw [ez2, up1_s, ew_3]
  refine sy_aload_n X d_B_setEstimate_26 hl 0 rfl ?_
  refine b_get [] X hw 2 hb (by decide) (tt_of k117 rfl) d_B_setEstimate_27 ?_
  refine sy_iload X d_B_setEstimate_30 hl 4 rfl ?_
  refine sy_ineg X d_B_setEstimate_32 ?_
  refine call_Vv (Xs := XC ad O P) (b := ad 0 (9 * b + 2)) (As := [.int (iI (-p1))]) (rest := []) X lk_B_40 (c_W_set l D cs ad z2 (9 * b + 2) (-p1) (by omega) ⟨by omega, by omega⟩) ⟨by decide, by decide⟩ (rcv_Z (by omega)) hw rfl hl.1 (Nat.le_of_ble_eq_true rfl) d_B_setEstimate_33 rfl rfl ⟨Nat.zero_le _, Nat.zero_le _⟩ (fun _ H locs _ hw => ?_)
  obtain ⟨z3, ez3⟩ : ∃ g, g = up1 z2 (9 * b + 2) ((-p1)) := ⟨_, rfl⟩
  rw [← ez3] at hw
  have fr3 : ∀ j, j ≠ (9 * b + 2) → z3 j = z2 j := fun j h0 => by rw [ez3, up1_n _ h0]
  obtain ⟨w_5, ew_5⟩ : ∃ g : Int, g = (-p1) := ⟨_, rfl⟩
  have hv_6 : z3 (9 * b + 2) = w_5 := by rw [ez3, up1_s, ew_5]
  refine sy_aload_n X d_B_setEstimate_36 hl 0 rfl ?_
  refine b_get [] X hw 3 hb (by decide) (tt_of k118 rfl) d_B_setEstimate_37 ?_
  refine sy_iload_n X d_B_setEstimate_40 hl 3 rfl ?_
  refine call_Vv (Xs := XC ad O P) (b := ad 0 (9 * b + 3)) (As := [.int (iI p0)]) (rest := []) X lk_B_40 (c_W_set l D cs ad z3 (9 * b + 3) p0 (by omega) ⟨by omega, by omega⟩) ⟨by decide, by decide⟩ (rcv_Z (by omega)) hw rfl hl.1 (Nat.le_of_ble_eq_true rfl) d_B_setEstimate_41 rfl rfl ⟨Nat.zero_le _, Nat.zero_le _⟩ (fun _ H locs _ hw => ?_)
  obtain ⟨z4, ez4⟩ : ∃ g, g = up1 z3 (9 * b + 3) (p0) := ⟨_, rfl⟩
  rw [← ez4] at hw
  have fr4 : ∀ j, j ≠ (9 * b + 3) → z4 j = z3 j := fun j h0 => by rw [ez4, up1_n _ h0]
  obtain ⟨w_7, ew_7⟩ : ∃ g : Int, g = p0 := ⟨_, rfl⟩
  have hv_8 : z4 (9 * b + 3) = w_7 := by rw [ez4, up1_s, ew_7]
  refine sy_aload_n X d_B_setEstimate_44 hl 0 rfl ?_
  refine b_get [] X hw 4 hb (by decide) (tt_of k119 rfl) d_B_setEstimate_45 ?_
  refine sy_iconst X d_B_setEstimate_48 ?_
  refine call_Vv (Xs := XC ad O P) (b := ad 0 (9 * b + 4)) (As := [.int (iI 1)]) (rest := []) X lk_B_40 (c_W_set l D cs ad z4 (9 * b + 4) 1 (by omega) ⟨by decide, by decide⟩) ⟨by decide, by decide⟩ (rcv_Z (by omega)) hw rfl hl.1 (Nat.le_of_ble_eq_true rfl) d_B_setEstimate_49 rfl rfl ⟨Nat.zero_le _, Nat.zero_le _⟩ (fun _ H locs _ hw => ?_)
  obtain ⟨z5, ez5⟩ : ∃ g, g = up1 z4 (9 * b + 4) (1) := ⟨_, rfl⟩
  rw [← ez5] at hw
  have fr5 : ∀ j, j ≠ (9 * b + 4) → z5 j = z4 j := fun j h0 => by rw [ez5, up1_n _ h0]
  obtain ⟨w_9, ew_9⟩ : ∃ g : Int, g = 1 := ⟨_, rfl⟩
  have hv_10 : z5 (9 * b + 4) = w_9 := by rw [ez5, up1_s, ew_9]
  refine sy_aload_n X d_B_setEstimate_52 hl 0 rfl ?_
  refine b_get [] X hw 5 hb (by decide) (tt_of k121 rfl) d_B_setEstimate_53 ?_
  refine sy_iload X d_B_setEstimate_56 hl 5 rfl ?_
  refine sy_iload_n X d_B_setEstimate_58 hl 1 rfl ?_
  refine sy_imul X d_B_setEstimate_59 ?_
  refine sy_iload X d_B_setEstimate_60 hl 4 rfl ?_
  refine sy_iload_n X d_B_setEstimate_62 hl 2 rfl ?_
  refine sy_imul X d_B_setEstimate_63 ?_
  refine sy_isub X d_B_setEstimate_64 ?_
  refine call_Vv (Xs := XC ad O P) (b := ad 0 (9 * b + 5)) (As := [.int (iI ((p2 * m0) - (p1 * m1)))]) (rest := []) X lk_B_40 (c_W_set l D cs ad z5 (9 * b + 5) ((p2 * m0) - (p1 * m1)) (by omega) ⟨by omega, by omega⟩) ⟨by decide, by decide⟩ (rcv_Z (by omega)) hw rfl hl.1 (Nat.le_of_ble_eq_true rfl) d_B_setEstimate_65 rfl rfl ⟨Nat.zero_le _, Nat.zero_le _⟩ (fun _ H locs _ hw => ?_)
  obtain ⟨z6, ez6⟩ : ∃ g, g = up1 z5 (9 * b + 5) (((p2 * m0) - (p1 * m1))) := ⟨_, rfl⟩
  rw [← ez6] at hw
  have fr6 : ∀ j, j ≠ (9 * b + 5) → z6 j = z5 j := fun j h0 => by rw [ez6, up1_n _ h0]
  obtain ⟨w_11, ew_11⟩ : ∃ g : Int, g = ((p2 * m0) - (p1 * m1)) := ⟨_, rfl⟩
  have hv_12 : z6 (9 * b + 5) = w_11 := by rw [ez6, up1_s, ew_11]
  refine sy_aload_n X d_B_setEstimate_68 hl 0 rfl ?_
  refine b_get [] X hw 6 hb (by decide) (tt_of k122 rfl) d_B_setEstimate_69 ?_
  refine sy_iload_n X d_B_setEstimate_72 hl 3 rfl ?_
  refine sy_iload_n X d_B_setEstimate_73 hl 2 rfl ?_
  refine sy_imul X d_B_setEstimate_74 ?_
  refine sy_iload X d_B_setEstimate_75 hl 4 rfl ?_
  refine sy_iload_n X d_B_setEstimate_77 hl 1 rfl ?_
  refine sy_imul X d_B_setEstimate_78 ?_
  refine sy_isub X d_B_setEstimate_79 ?_
  refine call_Vv (Xs := XC ad O P) (b := ad 0 (9 * b + 6)) (As := [.int (iI ((p0 * m1) - (p1 * m0)))]) (rest := []) X lk_B_40 (c_W_set l D cs ad z6 (9 * b + 6) ((p0 * m1) - (p1 * m0)) (by omega) ⟨by omega, by omega⟩) ⟨by decide, by decide⟩ (rcv_Z (by omega)) hw rfl hl.1 (Nat.le_of_ble_eq_true rfl) d_B_setEstimate_80 rfl rfl ⟨Nat.zero_le _, Nat.zero_le _⟩ (fun _ H locs _ hw => ?_)
  obtain ⟨z7, ez7⟩ : ∃ g, g = up1 z6 (9 * b + 6) (((p0 * m1) - (p1 * m0))) := ⟨_, rfl⟩
  rw [← ez7] at hw
  have fr7 : ∀ j, j ≠ (9 * b + 6) → z7 j = z6 j := fun j h0 => by rw [ez7, up1_n _ h0]
  obtain ⟨w_13, ew_13⟩ : ∃ g : Int, g = ((p0 * m1) - (p1 * m0)) := ⟨_, rfl⟩
  have hv_14 : z7 (9 * b + 6) = w_13 := by rw [ez7, up1_s, ew_13]
  refine sy_aload_n X d_B_setEstimate_83 hl 0 rfl ?_
  refine b_get [] X hw 7 hb (by decide) (tt_of k123 rfl) d_B_setEstimate_84 ?_
  refine sy_iload_n X d_B_setEstimate_87 hl 1 rfl ?_
  refine call_Vv (Xs := XC ad O P) (b := ad 0 (9 * b + 7)) (As := [.int (iI m0)]) (rest := []) X lk_B_40 (c_W_set l D cs ad z7 (9 * b + 7) m0 (by omega) ⟨by omega, by omega⟩) ⟨by decide, by decide⟩ (rcv_Z (by omega)) hw rfl hl.1 (Nat.le_of_ble_eq_true rfl) d_B_setEstimate_88 rfl rfl ⟨Nat.zero_le _, Nat.zero_le _⟩ (fun _ H locs _ hw => ?_)
  obtain ⟨z8, ez8⟩ : ∃ g, g = up1 z7 (9 * b + 7) (m0) := ⟨_, rfl⟩
  rw [← ez8] at hw
  have fr8 : ∀ j, j ≠ (9 * b + 7) → z8 j = z7 j := fun j h0 => by rw [ez8, up1_n _ h0]
  obtain ⟨w_15, ew_15⟩ : ∃ g : Int, g = m0 := ⟨_, rfl⟩
  have hv_16 : z8 (9 * b + 7) = w_15 := by rw [ez8, up1_s, ew_15]
  refine sy_aload_n X d_B_setEstimate_91 hl 0 rfl ?_
  refine b_get [] X hw 8 hb (by decide) (tt_of k125 rfl) d_B_setEstimate_92 ?_
  refine sy_iload_n X d_B_setEstimate_95 hl 2 rfl ?_
  refine call_Vv (Xs := XC ad O P) (b := ad 0 (9 * b + 8)) (As := [.int (iI m1)]) (rest := []) X lk_B_40 (c_W_set l D cs ad z8 (9 * b + 8) m1 (by omega) ⟨by omega, by omega⟩) ⟨by decide, by decide⟩ (rcv_Z (by omega)) hw rfl hl.1 (Nat.le_of_ble_eq_true rfl) d_B_setEstimate_96 rfl rfl ⟨Nat.zero_le _, Nat.zero_le _⟩ (fun _ H locs _ hw => ?_)
  obtain ⟨z9, ez9⟩ : ∃ g, g = up1 z8 (9 * b + 8) (m1) := ⟨_, rfl⟩
  rw [← ez9] at hw
  have fr9 : ∀ j, j ≠ (9 * b + 8) → z9 j = z8 j := fun j h0 => by rw [ez9, up1_n _ h0]
  obtain ⟨w_17, ew_17⟩ : ∃ g : Int, g = m1 := ⟨_, rfl⟩
  have hv_18 : z9 (9 * b + 8) = w_17 := by rw [ez9, up1_s, ew_17]
  have hv_19 : z9 (9 * b + 0) = w_1 := (fr9 (9 * b + 0) (by omega)).trans ((fr8 (9 * b + 0) (by omega)).trans ((fr7 (9 * b + 0) (by omega)).trans ((fr6 (9 * b + 0) (by omega)).trans ((fr5 (9 * b + 0) (by omega)).trans ((fr4 (9 * b + 0) (by omega)).trans ((fr3 (9 * b + 0) (by omega)).trans ((fr2 (9 * b + 0) (by omega)).trans (hv_2))))))))
  have hv_20 : z9 (9 * b + 1) = w_3 := (fr9 (9 * b + 1) (by omega)).trans ((fr8 (9 * b + 1) (by omega)).trans ((fr7 (9 * b + 1) (by omega)).trans ((fr6 (9 * b + 1) (by omega)).trans ((fr5 (9 * b + 1) (by omega)).trans ((fr4 (9 * b + 1) (by omega)).trans ((fr3 (9 * b + 1) (by omega)).trans (hv_4)))))))
  have hv_21 : z9 (9 * b + 2) = w_5 := (fr9 (9 * b + 2) (by omega)).trans ((fr8 (9 * b + 2) (by omega)).trans ((fr7 (9 * b + 2) (by omega)).trans ((fr6 (9 * b + 2) (by omega)).trans ((fr5 (9 * b + 2) (by omega)).trans ((fr4 (9 * b + 2) (by omega)).trans (hv_6))))))
  have hv_22 : z9 (9 * b + 3) = w_7 := (fr9 (9 * b + 3) (by omega)).trans ((fr8 (9 * b + 3) (by omega)).trans ((fr7 (9 * b + 3) (by omega)).trans ((fr6 (9 * b + 3) (by omega)).trans ((fr5 (9 * b + 3) (by omega)).trans (hv_8)))))
  have hv_23 : z9 (9 * b + 4) = w_9 := (fr9 (9 * b + 4) (by omega)).trans ((fr8 (9 * b + 4) (by omega)).trans ((fr7 (9 * b + 4) (by omega)).trans ((fr6 (9 * b + 4) (by omega)).trans (hv_10))))
  have hv_24 : z9 (9 * b + 5) = w_11 := (fr9 (9 * b + 5) (by omega)).trans ((fr8 (9 * b + 5) (by omega)).trans ((fr7 (9 * b + 5) (by omega)).trans (hv_12)))
  have hv_25 : z9 (9 * b + 6) = w_13 := (fr9 (9 * b + 6) (by omega)).trans ((fr8 (9 * b + 6) (by omega)).trans (hv_14))
  have hv_26 : z9 (9 * b + 7) = w_15 := (fr9 (9 * b + 7) (by omega)).trans (hv_16)
  have hzf : z9 = setB z b (estV m0 m1 p0 p1 p2) := by
    funext j
    by_cases hj : 9 * b ≤ j ∧ j < 9 * b + 9
    · obtain ⟨i9, hi9⟩ : ∃ i9, j = 9 * b + i9 ∧ i9 < 9 := ⟨j - 9 * b, by omega⟩
      obtain ⟨hij, hi9⟩ := hi9
      subst hij
      rw [setB_in hi9]
      have h9 : i9 = 0 ∨ i9 = 1 ∨ i9 = 2 ∨ i9 = 3 ∨ i9 = 4 ∨ i9 = 5 ∨ i9 = 6 ∨ i9 = 7 ∨ i9 = 8 := by omega
      rcases h9 with e9 | e9 | e9 | e9 | e9 | e9 | e9 | e9 | e9 <;> subst e9
      · rw [hv_19]; simp only [estV, blB, hu0, hu1, hu2, hu3, hu4, hu5, hu6, hu7, hu8, ew_17, ew_15, ew_13, ew_11, ew_9, ew_7, ew_5, ew_3, ew_1]
      · rw [hv_20]; simp only [estV, blB, hu0, hu1, hu2, hu3, hu4, hu5, hu6, hu7, hu8, ew_17, ew_15, ew_13, ew_11, ew_9, ew_7, ew_5, ew_3, ew_1]
      · rw [hv_21]; simp only [estV, blB, hu0, hu1, hu2, hu3, hu4, hu5, hu6, hu7, hu8, ew_17, ew_15, ew_13, ew_11, ew_9, ew_7, ew_5, ew_3, ew_1]
      · rw [hv_22]; simp only [estV, blB, hu0, hu1, hu2, hu3, hu4, hu5, hu6, hu7, hu8, ew_17, ew_15, ew_13, ew_11, ew_9, ew_7, ew_5, ew_3, ew_1]
      · rw [hv_23]; simp only [estV, blB, hu0, hu1, hu2, hu3, hu4, hu5, hu6, hu7, hu8, ew_17, ew_15, ew_13, ew_11, ew_9, ew_7, ew_5, ew_3, ew_1]
      · rw [hv_24]; simp only [estV, blB, hu0, hu1, hu2, hu3, hu4, hu5, hu6, hu7, hu8, ew_17, ew_15, ew_13, ew_11, ew_9, ew_7, ew_5, ew_3, ew_1]
      · rw [hv_25]; simp only [estV, blB, hu0, hu1, hu2, hu3, hu4, hu5, hu6, hu7, hu8, ew_17, ew_15, ew_13, ew_11, ew_9, ew_7, ew_5, ew_3, ew_1]
      · rw [hv_26]; simp only [estV, blB, hu0, hu1, hu2, hu3, hu4, hu5, hu6, hu7, hu8, ew_17, ew_15, ew_13, ew_11, ew_9, ew_7, ew_5, ew_3, ew_1]
      · rw [hv_18]; simp only [estV, blB, hu0, hu1, hu2, hu3, hu4, hu5, hu6, hu7, hu8, ew_17, ew_15, ew_13, ew_11, ew_9, ew_7, ew_5, ew_3, ew_1]
    · rw [setB_out hj]; exact (fr9 j (by omega)).trans ((fr8 j (by omega)).trans ((fr7 j (by omega)).trans ((fr6 j (by omega)).trans ((fr5 j (by omega)).trans ((fr4 j (by omega)).trans ((fr3 j (by omega)).trans ((fr2 j (by omega)).trans ((fr1 j (by omega)).trans (rfl)))))))))
  rw [hzf] at hw
  exact kr () _ _ _ _ d_B_setEstimate_99 hw trivial
set_option maxRecDepth 100000 in
set_option maxHeartbeats 4000000 in
theorem c_B_copy (l : Launch) (D : va_G) (cs : Nat → ClassId) (ad : Nat → Nat → Nat) (O P : Nat → Nat → Int) (z : Nat → Int) (b a : Nat) (hb : b < 13) (ha : a < 13) (hab : a ≠ b) : Ct (S := Unit) l D (tyL cs) y_B_copy b_B_copy 2 none (rm 2) [.ref (ad 2 b), .ref (ad 2 a)] (wO ad cs O P z) (fun _ => True) (fun _ => none) (fun _ => wO ad cs O P (setB z b (blB z a))) := by
  refine Ct.introV (by decide) (Nat.le_of_ble_eq_true rfl) (fun _ => rfl) ?_
  intro p e s m below meth c A args Q H locs X hnm hw kr ls hl
  have X : CX D (tyL cs) R_B b_B_copy 2 p m c s args := X
  have hl : lv_has ls 2 [(0, .ref (ad 2 b)), (1, .ref (ad 2 a))] := hl
  obtain ⟨u0, hu0⟩ : ∃ g, z (9 * b + 0) = g := ⟨_, rfl⟩
  obtain ⟨u1, hu1⟩ : ∃ g, z (9 * b + 1) = g := ⟨_, rfl⟩
  obtain ⟨u2, hu2⟩ : ∃ g, z (9 * b + 2) = g := ⟨_, rfl⟩
  obtain ⟨u3, hu3⟩ : ∃ g, z (9 * b + 3) = g := ⟨_, rfl⟩
  obtain ⟨u4, hu4⟩ : ∃ g, z (9 * b + 4) = g := ⟨_, rfl⟩
  obtain ⟨u5, hu5⟩ : ∃ g, z (9 * b + 5) = g := ⟨_, rfl⟩
  obtain ⟨u6, hu6⟩ : ∃ g, z (9 * b + 6) = g := ⟨_, rfl⟩
  obtain ⟨u7, hu7⟩ : ∃ g, z (9 * b + 7) = g := ⟨_, rfl⟩
  obtain ⟨u8, hu8⟩ : ∃ g, z (9 * b + 8) = g := ⟨_, rfl⟩
  obtain ⟨v0, hv0⟩ : ∃ g, z (9 * a + 0) = g := ⟨_, rfl⟩
  obtain ⟨v1, hv1⟩ : ∃ g, z (9 * a + 1) = g := ⟨_, rfl⟩
  obtain ⟨v2, hv2⟩ : ∃ g, z (9 * a + 2) = g := ⟨_, rfl⟩
  obtain ⟨v3, hv3⟩ : ∃ g, z (9 * a + 3) = g := ⟨_, rfl⟩
  obtain ⟨v4, hv4⟩ : ∃ g, z (9 * a + 4) = g := ⟨_, rfl⟩
  obtain ⟨v5, hv5⟩ : ∃ g, z (9 * a + 5) = g := ⟨_, rfl⟩
  obtain ⟨v6, hv6⟩ : ∃ g, z (9 * a + 6) = g := ⟨_, rfl⟩
  obtain ⟨v7, hv7⟩ : ∃ g, z (9 * a + 7) = g := ⟨_, rfl⟩
  obtain ⟨v8, hv8⟩ : ∃ g, z (9 * a + 8) = g := ⟨_, rfl⟩
  refine sy_aload_n X d_B_copy_0 hl 0 rfl ?_
  refine b_get [] X hw 0 hb (by decide) (tt_of k115 rfl) d_B_copy_1 ?_
  refine sy_aload_n X d_B_copy_4 hl 1 rfl ?_
  refine b_get [] X hw 0 ha (by decide) (tt_of k115 rfl) d_B_copy_5 ?_
  refine call_Vv (Xs := XC ad O P) (b := ad 0 (9 * b + 0)) (As := [.ref (ad 0 (9 * a + 0))]) (rest := []) X lk_B_44 (c_W_copy l D cs ad z (9 * b + 0) (9 * a + 0) (by omega) (by omega)) ⟨by decide, by decide⟩ (rcv_Z (by omega)) hw rfl hl.1 (Nat.le_of_ble_eq_true rfl) d_B_copy_8 rfl rfl ⟨Nat.zero_le _, Nat.zero_le _⟩ (fun _ H locs _ hw => ?_)
  obtain ⟨z1, ez1⟩ : ∃ g, g = up1 z (9 * b + 0) (z (9 * a + 0)) := ⟨_, rfl⟩
  rw [← ez1] at hw
  have fr1 : ∀ j, j ≠ (9 * b + 0) → z1 j = z j := fun j h0 => by rw [ez1, up1_n _ h0]
  obtain ⟨w_1, ew_1⟩ : ∃ g : Int, g = v0 := ⟨_, rfl⟩
  have hv_2 : z1 (9 * b + 0) = w_1 := by rw [ez1, up1_s, hv0, ew_1]
  refine sy_aload_n X d_B_copy_11 hl 0 rfl ?_
  refine b_get [] X hw 1 hb (by decide) (tt_of k116 rfl) d_B_copy_12 ?_
  refine sy_aload_n X d_B_copy_15 hl 1 rfl ?_
  refine b_get [] X hw 1 ha (by decide) (tt_of k116 rfl) d_B_copy_16 ?_
  have hv_3 : z1 (9 * a + 1) = v1 := (fr1 (9 * a + 1) (by omega)).trans (hv1)
  refine call_Vv (Xs := XC ad O P) (b := ad 0 (9 * b + 1)) (As := [.ref (ad 0 (9 * a + 1))]) (rest := []) X lk_B_44 (c_W_copy l D cs ad z1 (9 * b + 1) (9 * a + 1) (by omega) (by omega)) ⟨by decide, by decide⟩ (rcv_Z (by omega)) hw rfl hl.1 (Nat.le_of_ble_eq_true rfl) d_B_copy_19 rfl rfl ⟨Nat.zero_le _, Nat.zero_le _⟩ (fun _ H locs _ hw => ?_)
  obtain ⟨z2, ez2⟩ : ∃ g, g = up1 z1 (9 * b + 1) (z1 (9 * a + 1)) := ⟨_, rfl⟩
  rw [← ez2] at hw
  have fr2 : ∀ j, j ≠ (9 * b + 1) → z2 j = z1 j := fun j h0 => by rw [ez2, up1_n _ h0]
  obtain ⟨w_4, ew_4⟩ : ∃ g : Int, g = v1 := ⟨_, rfl⟩
  have hv_5 : z2 (9 * b + 1) = w_4 := by rw [ez2, up1_s, hv_3, ew_4]
  refine sy_aload_n X d_B_copy_22 hl 0 rfl ?_
  refine b_get [] X hw 2 hb (by decide) (tt_of k117 rfl) d_B_copy_23 ?_
  refine sy_aload_n X d_B_copy_26 hl 1 rfl ?_
  refine b_get [] X hw 2 ha (by decide) (tt_of k117 rfl) d_B_copy_27 ?_
  have hv_6 : z2 (9 * a + 2) = v2 := (fr2 (9 * a + 2) (by omega)).trans ((fr1 (9 * a + 2) (by omega)).trans (hv2))
  refine call_Vv (Xs := XC ad O P) (b := ad 0 (9 * b + 2)) (As := [.ref (ad 0 (9 * a + 2))]) (rest := []) X lk_B_44 (c_W_copy l D cs ad z2 (9 * b + 2) (9 * a + 2) (by omega) (by omega)) ⟨by decide, by decide⟩ (rcv_Z (by omega)) hw rfl hl.1 (Nat.le_of_ble_eq_true rfl) d_B_copy_30 rfl rfl ⟨Nat.zero_le _, Nat.zero_le _⟩ (fun _ H locs _ hw => ?_)
  obtain ⟨z3, ez3⟩ : ∃ g, g = up1 z2 (9 * b + 2) (z2 (9 * a + 2)) := ⟨_, rfl⟩
  rw [← ez3] at hw
  have fr3 : ∀ j, j ≠ (9 * b + 2) → z3 j = z2 j := fun j h0 => by rw [ez3, up1_n _ h0]
  obtain ⟨w_7, ew_7⟩ : ∃ g : Int, g = v2 := ⟨_, rfl⟩
  have hv_8 : z3 (9 * b + 2) = w_7 := by rw [ez3, up1_s, hv_6, ew_7]
  refine sy_aload_n X d_B_copy_33 hl 0 rfl ?_
  refine b_get [] X hw 3 hb (by decide) (tt_of k118 rfl) d_B_copy_34 ?_
  refine sy_aload_n X d_B_copy_37 hl 1 rfl ?_
  refine b_get [] X hw 3 ha (by decide) (tt_of k118 rfl) d_B_copy_38 ?_
  have hv_9 : z3 (9 * a + 3) = v3 := (fr3 (9 * a + 3) (by omega)).trans ((fr2 (9 * a + 3) (by omega)).trans ((fr1 (9 * a + 3) (by omega)).trans (hv3)))
  refine call_Vv (Xs := XC ad O P) (b := ad 0 (9 * b + 3)) (As := [.ref (ad 0 (9 * a + 3))]) (rest := []) X lk_B_44 (c_W_copy l D cs ad z3 (9 * b + 3) (9 * a + 3) (by omega) (by omega)) ⟨by decide, by decide⟩ (rcv_Z (by omega)) hw rfl hl.1 (Nat.le_of_ble_eq_true rfl) d_B_copy_41 rfl rfl ⟨Nat.zero_le _, Nat.zero_le _⟩ (fun _ H locs _ hw => ?_)
  obtain ⟨z4, ez4⟩ : ∃ g, g = up1 z3 (9 * b + 3) (z3 (9 * a + 3)) := ⟨_, rfl⟩
  rw [← ez4] at hw
  have fr4 : ∀ j, j ≠ (9 * b + 3) → z4 j = z3 j := fun j h0 => by rw [ez4, up1_n _ h0]
  obtain ⟨w_10, ew_10⟩ : ∃ g : Int, g = v3 := ⟨_, rfl⟩
  have hv_11 : z4 (9 * b + 3) = w_10 := by rw [ez4, up1_s, hv_9, ew_10]
  refine sy_aload_n X d_B_copy_44 hl 0 rfl ?_
  refine b_get [] X hw 4 hb (by decide) (tt_of k119 rfl) d_B_copy_45 ?_
  refine sy_aload_n X d_B_copy_48 hl 1 rfl ?_
  refine b_get [] X hw 4 ha (by decide) (tt_of k119 rfl) d_B_copy_49 ?_
  have hv_12 : z4 (9 * a + 4) = v4 := (fr4 (9 * a + 4) (by omega)).trans ((fr3 (9 * a + 4) (by omega)).trans ((fr2 (9 * a + 4) (by omega)).trans ((fr1 (9 * a + 4) (by omega)).trans (hv4))))
  refine call_Vv (Xs := XC ad O P) (b := ad 0 (9 * b + 4)) (As := [.ref (ad 0 (9 * a + 4))]) (rest := []) X lk_B_44 (c_W_copy l D cs ad z4 (9 * b + 4) (9 * a + 4) (by omega) (by omega)) ⟨by decide, by decide⟩ (rcv_Z (by omega)) hw rfl hl.1 (Nat.le_of_ble_eq_true rfl) d_B_copy_52 rfl rfl ⟨Nat.zero_le _, Nat.zero_le _⟩ (fun _ H locs _ hw => ?_)
  obtain ⟨z5, ez5⟩ : ∃ g, g = up1 z4 (9 * b + 4) (z4 (9 * a + 4)) := ⟨_, rfl⟩
  rw [← ez5] at hw
  have fr5 : ∀ j, j ≠ (9 * b + 4) → z5 j = z4 j := fun j h0 => by rw [ez5, up1_n _ h0]
  obtain ⟨w_13, ew_13⟩ : ∃ g : Int, g = v4 := ⟨_, rfl⟩
  have hv_14 : z5 (9 * b + 4) = w_13 := by rw [ez5, up1_s, hv_12, ew_13]
  refine sy_aload_n X d_B_copy_55 hl 0 rfl ?_
  refine b_get [] X hw 5 hb (by decide) (tt_of k121 rfl) d_B_copy_56 ?_
  refine sy_aload_n X d_B_copy_59 hl 1 rfl ?_
  refine b_get [] X hw 5 ha (by decide) (tt_of k121 rfl) d_B_copy_60 ?_
  have hv_15 : z5 (9 * a + 5) = v5 := (fr5 (9 * a + 5) (by omega)).trans ((fr4 (9 * a + 5) (by omega)).trans ((fr3 (9 * a + 5) (by omega)).trans ((fr2 (9 * a + 5) (by omega)).trans ((fr1 (9 * a + 5) (by omega)).trans (hv5)))))
  refine call_Vv (Xs := XC ad O P) (b := ad 0 (9 * b + 5)) (As := [.ref (ad 0 (9 * a + 5))]) (rest := []) X lk_B_44 (c_W_copy l D cs ad z5 (9 * b + 5) (9 * a + 5) (by omega) (by omega)) ⟨by decide, by decide⟩ (rcv_Z (by omega)) hw rfl hl.1 (Nat.le_of_ble_eq_true rfl) d_B_copy_63 rfl rfl ⟨Nat.zero_le _, Nat.zero_le _⟩ (fun _ H locs _ hw => ?_)
  obtain ⟨z6, ez6⟩ : ∃ g, g = up1 z5 (9 * b + 5) (z5 (9 * a + 5)) := ⟨_, rfl⟩
  rw [← ez6] at hw
  have fr6 : ∀ j, j ≠ (9 * b + 5) → z6 j = z5 j := fun j h0 => by rw [ez6, up1_n _ h0]
  obtain ⟨w_16, ew_16⟩ : ∃ g : Int, g = v5 := ⟨_, rfl⟩
  have hv_17 : z6 (9 * b + 5) = w_16 := by rw [ez6, up1_s, hv_15, ew_16]
  refine sy_aload_n X d_B_copy_66 hl 0 rfl ?_
  refine b_get [] X hw 6 hb (by decide) (tt_of k122 rfl) d_B_copy_67 ?_
  refine sy_aload_n X d_B_copy_70 hl 1 rfl ?_
  refine b_get [] X hw 6 ha (by decide) (tt_of k122 rfl) d_B_copy_71 ?_
  have hv_18 : z6 (9 * a + 6) = v6 := (fr6 (9 * a + 6) (by omega)).trans ((fr5 (9 * a + 6) (by omega)).trans ((fr4 (9 * a + 6) (by omega)).trans ((fr3 (9 * a + 6) (by omega)).trans ((fr2 (9 * a + 6) (by omega)).trans ((fr1 (9 * a + 6) (by omega)).trans (hv6))))))
  refine call_Vv (Xs := XC ad O P) (b := ad 0 (9 * b + 6)) (As := [.ref (ad 0 (9 * a + 6))]) (rest := []) X lk_B_44 (c_W_copy l D cs ad z6 (9 * b + 6) (9 * a + 6) (by omega) (by omega)) ⟨by decide, by decide⟩ (rcv_Z (by omega)) hw rfl hl.1 (Nat.le_of_ble_eq_true rfl) d_B_copy_74 rfl rfl ⟨Nat.zero_le _, Nat.zero_le _⟩ (fun _ H locs _ hw => ?_)
  obtain ⟨z7, ez7⟩ : ∃ g, g = up1 z6 (9 * b + 6) (z6 (9 * a + 6)) := ⟨_, rfl⟩
  rw [← ez7] at hw
  have fr7 : ∀ j, j ≠ (9 * b + 6) → z7 j = z6 j := fun j h0 => by rw [ez7, up1_n _ h0]
  obtain ⟨w_19, ew_19⟩ : ∃ g : Int, g = v6 := ⟨_, rfl⟩
  have hv_20 : z7 (9 * b + 6) = w_19 := by rw [ez7, up1_s, hv_18, ew_19]
  refine sy_aload_n X d_B_copy_77 hl 0 rfl ?_
  refine b_get [] X hw 7 hb (by decide) (tt_of k123 rfl) d_B_copy_78 ?_
  refine sy_aload_n X d_B_copy_81 hl 1 rfl ?_
  refine b_get [] X hw 7 ha (by decide) (tt_of k123 rfl) d_B_copy_82 ?_
  have hv_21 : z7 (9 * a + 7) = v7 := (fr7 (9 * a + 7) (by omega)).trans ((fr6 (9 * a + 7) (by omega)).trans ((fr5 (9 * a + 7) (by omega)).trans ((fr4 (9 * a + 7) (by omega)).trans ((fr3 (9 * a + 7) (by omega)).trans ((fr2 (9 * a + 7) (by omega)).trans ((fr1 (9 * a + 7) (by omega)).trans (hv7)))))))
  refine call_Vv (Xs := XC ad O P) (b := ad 0 (9 * b + 7)) (As := [.ref (ad 0 (9 * a + 7))]) (rest := []) X lk_B_44 (c_W_copy l D cs ad z7 (9 * b + 7) (9 * a + 7) (by omega) (by omega)) ⟨by decide, by decide⟩ (rcv_Z (by omega)) hw rfl hl.1 (Nat.le_of_ble_eq_true rfl) d_B_copy_85 rfl rfl ⟨Nat.zero_le _, Nat.zero_le _⟩ (fun _ H locs _ hw => ?_)
  obtain ⟨z8, ez8⟩ : ∃ g, g = up1 z7 (9 * b + 7) (z7 (9 * a + 7)) := ⟨_, rfl⟩
  rw [← ez8] at hw
  have fr8 : ∀ j, j ≠ (9 * b + 7) → z8 j = z7 j := fun j h0 => by rw [ez8, up1_n _ h0]
  obtain ⟨w_22, ew_22⟩ : ∃ g : Int, g = v7 := ⟨_, rfl⟩
  have hv_23 : z8 (9 * b + 7) = w_22 := by rw [ez8, up1_s, hv_21, ew_22]
  refine sy_aload_n X d_B_copy_88 hl 0 rfl ?_
  refine b_get [] X hw 8 hb (by decide) (tt_of k125 rfl) d_B_copy_89 ?_
  refine sy_aload_n X d_B_copy_92 hl 1 rfl ?_
  refine b_get [] X hw 8 ha (by decide) (tt_of k125 rfl) d_B_copy_93 ?_
  have hv_24 : z8 (9 * a + 8) = v8 := (fr8 (9 * a + 8) (by omega)).trans ((fr7 (9 * a + 8) (by omega)).trans ((fr6 (9 * a + 8) (by omega)).trans ((fr5 (9 * a + 8) (by omega)).trans ((fr4 (9 * a + 8) (by omega)).trans ((fr3 (9 * a + 8) (by omega)).trans ((fr2 (9 * a + 8) (by omega)).trans ((fr1 (9 * a + 8) (by omega)).trans (hv8))))))))
  refine call_Vv (Xs := XC ad O P) (b := ad 0 (9 * b + 8)) (As := [.ref (ad 0 (9 * a + 8))]) (rest := []) X lk_B_44 (c_W_copy l D cs ad z8 (9 * b + 8) (9 * a + 8) (by omega) (by omega)) ⟨by decide, by decide⟩ (rcv_Z (by omega)) hw rfl hl.1 (Nat.le_of_ble_eq_true rfl) d_B_copy_96 rfl rfl ⟨Nat.zero_le _, Nat.zero_le _⟩ (fun _ H locs _ hw => ?_)
  obtain ⟨z9, ez9⟩ : ∃ g, g = up1 z8 (9 * b + 8) (z8 (9 * a + 8)) := ⟨_, rfl⟩
  rw [← ez9] at hw
  have fr9 : ∀ j, j ≠ (9 * b + 8) → z9 j = z8 j := fun j h0 => by rw [ez9, up1_n _ h0]
  obtain ⟨w_25, ew_25⟩ : ∃ g : Int, g = v8 := ⟨_, rfl⟩
  have hv_26 : z9 (9 * b + 8) = w_25 := by rw [ez9, up1_s, hv_24, ew_25]
  have hv_27 : z9 (9 * b + 0) = w_1 := (fr9 (9 * b + 0) (by omega)).trans ((fr8 (9 * b + 0) (by omega)).trans ((fr7 (9 * b + 0) (by omega)).trans ((fr6 (9 * b + 0) (by omega)).trans ((fr5 (9 * b + 0) (by omega)).trans ((fr4 (9 * b + 0) (by omega)).trans ((fr3 (9 * b + 0) (by omega)).trans ((fr2 (9 * b + 0) (by omega)).trans (hv_2))))))))
  have hv_28 : z9 (9 * b + 1) = w_4 := (fr9 (9 * b + 1) (by omega)).trans ((fr8 (9 * b + 1) (by omega)).trans ((fr7 (9 * b + 1) (by omega)).trans ((fr6 (9 * b + 1) (by omega)).trans ((fr5 (9 * b + 1) (by omega)).trans ((fr4 (9 * b + 1) (by omega)).trans ((fr3 (9 * b + 1) (by omega)).trans (hv_5)))))))
  have hv_29 : z9 (9 * b + 2) = w_7 := (fr9 (9 * b + 2) (by omega)).trans ((fr8 (9 * b + 2) (by omega)).trans ((fr7 (9 * b + 2) (by omega)).trans ((fr6 (9 * b + 2) (by omega)).trans ((fr5 (9 * b + 2) (by omega)).trans ((fr4 (9 * b + 2) (by omega)).trans (hv_8))))))
  have hv_30 : z9 (9 * b + 3) = w_10 := (fr9 (9 * b + 3) (by omega)).trans ((fr8 (9 * b + 3) (by omega)).trans ((fr7 (9 * b + 3) (by omega)).trans ((fr6 (9 * b + 3) (by omega)).trans ((fr5 (9 * b + 3) (by omega)).trans (hv_11)))))
  have hv_31 : z9 (9 * b + 4) = w_13 := (fr9 (9 * b + 4) (by omega)).trans ((fr8 (9 * b + 4) (by omega)).trans ((fr7 (9 * b + 4) (by omega)).trans ((fr6 (9 * b + 4) (by omega)).trans (hv_14))))
  have hv_32 : z9 (9 * b + 5) = w_16 := (fr9 (9 * b + 5) (by omega)).trans ((fr8 (9 * b + 5) (by omega)).trans ((fr7 (9 * b + 5) (by omega)).trans (hv_17)))
  have hv_33 : z9 (9 * b + 6) = w_19 := (fr9 (9 * b + 6) (by omega)).trans ((fr8 (9 * b + 6) (by omega)).trans (hv_20))
  have hv_34 : z9 (9 * b + 7) = w_22 := (fr9 (9 * b + 7) (by omega)).trans (hv_23)
  have hzf : z9 = setB z b (blB z a) := by
    funext j
    by_cases hj : 9 * b ≤ j ∧ j < 9 * b + 9
    · obtain ⟨i9, hi9⟩ : ∃ i9, j = 9 * b + i9 ∧ i9 < 9 := ⟨j - 9 * b, by omega⟩
      obtain ⟨hij, hi9⟩ := hi9
      subst hij
      rw [setB_in hi9]
      have h9 : i9 = 0 ∨ i9 = 1 ∨ i9 = 2 ∨ i9 = 3 ∨ i9 = 4 ∨ i9 = 5 ∨ i9 = 6 ∨ i9 = 7 ∨ i9 = 8 := by omega
      rcases h9 with e9 | e9 | e9 | e9 | e9 | e9 | e9 | e9 | e9 <;> subst e9
      · rw [hv_27]; simp only [blB, blB, hu0, hu1, hu2, hu3, hu4, hu5, hu6, hu7, hu8, hv0, hv1, hv2, hv3, hv4, hv5, hv6, hv7, hv8, ew_25, ew_22, ew_19, ew_16, ew_13, ew_10, ew_7, ew_4, ew_1]
      · rw [hv_28]; simp only [blB, blB, hu0, hu1, hu2, hu3, hu4, hu5, hu6, hu7, hu8, hv0, hv1, hv2, hv3, hv4, hv5, hv6, hv7, hv8, ew_25, ew_22, ew_19, ew_16, ew_13, ew_10, ew_7, ew_4, ew_1]
      · rw [hv_29]; simp only [blB, blB, hu0, hu1, hu2, hu3, hu4, hu5, hu6, hu7, hu8, hv0, hv1, hv2, hv3, hv4, hv5, hv6, hv7, hv8, ew_25, ew_22, ew_19, ew_16, ew_13, ew_10, ew_7, ew_4, ew_1]
      · rw [hv_30]; simp only [blB, blB, hu0, hu1, hu2, hu3, hu4, hu5, hu6, hu7, hu8, hv0, hv1, hv2, hv3, hv4, hv5, hv6, hv7, hv8, ew_25, ew_22, ew_19, ew_16, ew_13, ew_10, ew_7, ew_4, ew_1]
      · rw [hv_31]; simp only [blB, blB, hu0, hu1, hu2, hu3, hu4, hu5, hu6, hu7, hu8, hv0, hv1, hv2, hv3, hv4, hv5, hv6, hv7, hv8, ew_25, ew_22, ew_19, ew_16, ew_13, ew_10, ew_7, ew_4, ew_1]
      · rw [hv_32]; simp only [blB, blB, hu0, hu1, hu2, hu3, hu4, hu5, hu6, hu7, hu8, hv0, hv1, hv2, hv3, hv4, hv5, hv6, hv7, hv8, ew_25, ew_22, ew_19, ew_16, ew_13, ew_10, ew_7, ew_4, ew_1]
      · rw [hv_33]; simp only [blB, blB, hu0, hu1, hu2, hu3, hu4, hu5, hu6, hu7, hu8, hv0, hv1, hv2, hv3, hv4, hv5, hv6, hv7, hv8, ew_25, ew_22, ew_19, ew_16, ew_13, ew_10, ew_7, ew_4, ew_1]
      · rw [hv_34]; simp only [blB, blB, hu0, hu1, hu2, hu3, hu4, hu5, hu6, hu7, hu8, hv0, hv1, hv2, hv3, hv4, hv5, hv6, hv7, hv8, ew_25, ew_22, ew_19, ew_16, ew_13, ew_10, ew_7, ew_4, ew_1]
      · rw [hv_26]; simp only [blB, blB, hu0, hu1, hu2, hu3, hu4, hu5, hu6, hu7, hu8, hv0, hv1, hv2, hv3, hv4, hv5, hv6, hv7, hv8, ew_25, ew_22, ew_19, ew_16, ew_13, ew_10, ew_7, ew_4, ew_1]
    · rw [setB_out hj]; exact (fr9 j (by omega)).trans ((fr8 j (by omega)).trans ((fr7 j (by omega)).trans ((fr6 j (by omega)).trans ((fr5 j (by omega)).trans ((fr4 j (by omega)).trans ((fr3 j (by omega)).trans ((fr2 j (by omega)).trans ((fr1 j (by omega)).trans (rfl)))))))))
  rw [hzf] at hw
  exact kr () _ _ _ _ d_B_copy_99 hw trivial
set_option maxRecDepth 100000 in
set_option maxHeartbeats 4000000 in
theorem c_B_learn (l : Launch) (D : va_G) (cs : Nat → ClassId) (ad : Nat → Nat → Nat) (O P : Nat → Nat → Int) (z : Nat → Int) (b i : Nat) (hb : b < 13) (hi : i < 6) (k0 : -9 ≤ O i 0 ∧ O i 0 ≤ 9) (k1 : -9 ≤ O i 1 ∧ O i 1 ≤ 9) (k2 : 1 ≤ O i 2 ∧ O i 2 ≤ 99) (k3 : -999 ≤ O i 3 ∧ O i 3 ≤ 999) : Ct (S := Unit) l D (tyL cs) y_B_learn b_B_learn 6 none (rm 3) [.ref (ad 2 b), .ref (ad 3 i)] (wO ad cs O P z) (fun _ => True) (fun _ => none) (fun _ => wO ad cs O P (setB z b (learnV (blB z b) (O i 0) (O i 1) (O i 2) (O i 3)))) := by
  refine Ct.introV (by decide) (Nat.le_of_ble_eq_true rfl) (fun _ => rfl) ?_
  intro p e s m below meth c A args Q H locs X hnm hw kr ls hl
  have X : CX D (tyL cs) R_B b_B_learn 6 p m c s args := X
  have hl : lv_has ls 6 [(0, .ref (ad 2 b)), (1, .ref (ad 3 i))] := hl
  obtain ⟨u0, hu0⟩ : ∃ g, z (9 * b + 0) = g := ⟨_, rfl⟩
  obtain ⟨u1, hu1⟩ : ∃ g, z (9 * b + 1) = g := ⟨_, rfl⟩
  obtain ⟨u2, hu2⟩ : ∃ g, z (9 * b + 2) = g := ⟨_, rfl⟩
  obtain ⟨u3, hu3⟩ : ∃ g, z (9 * b + 3) = g := ⟨_, rfl⟩
  obtain ⟨u4, hu4⟩ : ∃ g, z (9 * b + 4) = g := ⟨_, rfl⟩
  obtain ⟨u5, hu5⟩ : ∃ g, z (9 * b + 5) = g := ⟨_, rfl⟩
  obtain ⟨u6, hu6⟩ : ∃ g, z (9 * b + 6) = g := ⟨_, rfl⟩
  obtain ⟨u7, hu7⟩ : ∃ g, z (9 * b + 7) = g := ⟨_, rfl⟩
  obtain ⟨u8, hu8⟩ : ∃ g, z (9 * b + 8) = g := ⟨_, rfl⟩
  obtain ⟨h0, e0⟩ : ∃ g, O i 0 = g := ⟨_, rfl⟩
  obtain ⟨h1, e1⟩ : ∃ g, O i 1 = g := ⟨_, rfl⟩
  obtain ⟨r, e2⟩ : ∃ g, O i 2 = g := ⟨_, rfl⟩
  obtain ⟨x, e3⟩ : ∃ g, O i 3 = g := ⟨_, rfl⟩
  rw [e0] at k0
  rw [e1] at k1
  rw [e2] at k2
  rw [e3] at k3
  simp only [e0, e1, e2, e3] at kr
  have y1 := mul_rng k0 k0
  have y2 := mul_rng k1 k1
  have y3 := mul_rng k0 k1
  have y4 := mul_rng k3 k0
  have y5 := mul_rng k3 k1
  have y6 := mul_rng (x := -x) (a := 999) (by omega) k1
  have y7 := mul_rng (x := -x) (a := 999) (by omega) k0
  have y8 := mul_rng (x := -h0) (a := 9) (by omega) k1
  have y9 := mul_rng (x := -2 * h0) (a := 18) (by omega) k1
  refine sy_aload_n X d_B_learn_0 hl 1 rfl ?_
  refine o_get [] X hw 0 hi (by decide) (tt_of k154 rfl) d_B_learn_1 ?_
  rw [e0]
  refine sy_istore_n (lv1 := [(2, .int (iI h0)), (0, .ref (ad 2 b)), (1, .ref (ad 3 i))]) X d_B_learn_4 hl rfl (by decide) rfl (fun ls hl => ?_)
  refine sy_aload_n X d_B_learn_5 hl 2 rfl ?_
  refine o_get [] X hw 1 hi (by decide) (tt_of k157 rfl) d_B_learn_6 ?_
  rw [e1]
  refine sy_istore_n (lv1 := [(3, .int (iI h1)), (2, .int (iI h0)), (0, .ref (ad 2 b)), (1, .ref (ad 3 i))]) X d_B_learn_9 hl rfl (by decide) rfl (fun ls hl => ?_)
  refine sy_aload_n X d_B_learn_10 hl 3 rfl ?_
  refine o_get [] X hw 2 hi (by decide) (tt_of k160 rfl) d_B_learn_11 ?_
  rw [e2]
  refine sy_istore (lv1 := [(4, .int (iI r)), (3, .int (iI h1)), (2, .int (iI h0)), (0, .ref (ad 2 b)), (1, .ref (ad 3 i))]) X d_B_learn_14 hl (by decide) rfl (fun ls hl => ?_)
  refine sy_aload_n X d_B_learn_16 hl 4 rfl ?_
  refine o_get [] X hw 3 hi (by decide) (tt_of k162 rfl) d_B_learn_17 ?_
  rw [e3]
  refine sy_istore (lv1 := [(5, .int (iI x)), (4, .int (iI r)), (3, .int (iI h1)), (2, .int (iI h0)), (0, .ref (ad 2 b)), (1, .ref (ad 3 i))]) X d_B_learn_20 hl (by decide) rfl (fun ls hl => ?_)
  refine sy_aload_n X d_B_learn_22 hl 4 rfl ?_
  refine b_get [] X hw 7 hb (by decide) (tt_of k123 rfl) d_B_learn_23 ?_
  refine sy_iload X d_B_learn_26 hl 1 rfl ?_
  refine call_Vv (Xs := XC ad O P) (b := ad 0 (9 * b + 7)) (As := [.int (iI r)]) (rest := []) X lk_B_63 (c_W_scale l D cs ad z (9 * b + 7) r (by omega) ⟨by omega, by omega⟩) ⟨by decide, by decide⟩ (rcv_Z (by omega)) hw rfl hl.1 (Nat.le_of_ble_eq_true rfl) d_B_learn_28 rfl rfl ⟨Nat.zero_le _, Nat.zero_le _⟩ (fun _ H locs _ hw => ?_)
  obtain ⟨z1, ez1⟩ : ∃ g, g = up1 z (9 * b + 7) (z (9 * b + 7) * r) := ⟨_, rfl⟩
  rw [← ez1] at hw
  have fr1 : ∀ j, j ≠ (9 * b + 7) → z1 j = z j := fun j h0 => by rw [ez1, up1_n _ h0]
  obtain ⟨w_1, ew_1⟩ : ∃ g : Int, g = u7 * r := ⟨_, rfl⟩
  have hv_2 : z1 (9 * b + 7) = w_1 := by rw [ez1, up1_s, hu7, ew_1]
  refine sy_aload_n X d_B_learn_31 hl 4 rfl ?_
  refine b_get [] X hw 7 hb (by decide) (tt_of k123 rfl) d_B_learn_32 ?_
  refine sy_aload_n X d_B_learn_35 hl 4 rfl ?_
  refine b_get [] X hw 3 hb (by decide) (tt_of k118 rfl) d_B_learn_36 ?_
  refine sy_iload X d_B_learn_39 hl 0 rfl ?_
  refine sy_iload_n X d_B_learn_41 hl 3 rfl ?_
  refine sy_imul X d_B_learn_42 ?_
  refine sy_aload_n X d_B_learn_43 hl 4 rfl ?_
  refine b_get [] X hw 2 hb (by decide) (tt_of k117 rfl) d_B_learn_44 ?_
  refine sy_iload X d_B_learn_47 hl 0 rfl ?_
  refine sy_ineg X d_B_learn_49 ?_
  refine sy_iload_n X d_B_learn_50 hl 2 rfl ?_
  refine sy_imul X d_B_learn_51 ?_
  have hv_3 : z1 (9 * b + 3) = u3 := (fr1 (9 * b + 3) (by omega)).trans (hu3)
  have hv_4 : z1 (9 * b + 2) = u2 := (fr1 (9 * b + 2) (by omega)).trans (hu2)
  refine call_Vv (Xs := XC ad O P) (b := ad 0 (9 * b + 7)) (As := [.ref (ad 0 (9 * b + 3)), .int (iI (x * h0)), .ref (ad 0 (9 * b + 2)), .int (iI ((-x) * h1))]) (rest := []) X lk_B_66 (c_W_addSum l D cs ad z1 (9 * b + 7) (9 * b + 3) (x * h0) (9 * b + 2) ((-x) * h1) (by omega) (by omega) (by omega) (by omega) ⟨by omega, by omega⟩ ⟨by omega, by omega⟩) ⟨by decide, by decide⟩ (rcv_Z (by omega)) hw rfl hl.1 (Nat.le_of_ble_eq_true rfl) d_B_learn_52 rfl rfl ⟨Nat.zero_le _, Nat.zero_le _⟩ (fun _ H locs _ hw => ?_)
  obtain ⟨z2, ez2⟩ : ∃ g, g = up1 z1 (9 * b + 7) (z1 (9 * b + 7) + z1 (9 * b + 3) * (x * h0) + z1 (9 * b + 2) * ((-x) * h1)) := ⟨_, rfl⟩
  rw [← ez2] at hw
  have fr2 : ∀ j, j ≠ (9 * b + 7) → z2 j = z1 j := fun j h0 => by rw [ez2, up1_n _ h0]
  obtain ⟨w_5, ew_5⟩ : ∃ g : Int, g = w_1 + u3 * (x * h0) + u2 * ((-x) * h1) := ⟨_, rfl⟩
  have hv_6 : z2 (9 * b + 7) = w_5 := by rw [ez2, up1_s, hv_2, hv_3, hv_4, ew_5]
  refine sy_aload_n X d_B_learn_55 hl 4 rfl ?_
  refine b_get [] X hw 7 hb (by decide) (tt_of k123 rfl) d_B_learn_56 ?_
  refine sy_aload_n X d_B_learn_59 hl 4 rfl ?_
  refine b_get [] X hw 5 hb (by decide) (tt_of k121 rfl) d_B_learn_60 ?_
  refine sy_iload_n X d_B_learn_63 hl 2 rfl ?_
  refine sy_iload_n X d_B_learn_64 hl 2 rfl ?_
  refine sy_imul X d_B_learn_65 ?_
  refine sy_aload_n X d_B_learn_66 hl 4 rfl ?_
  refine b_get [] X hw 6 hb (by decide) (tt_of k122 rfl) d_B_learn_67 ?_
  refine sy_iload_n X d_B_learn_70 hl 3 rfl ?_
  refine sy_ineg X d_B_learn_71 ?_
  refine sy_iload_n X d_B_learn_72 hl 2 rfl ?_
  refine sy_imul X d_B_learn_73 ?_
  have hv_7 : z2 (9 * b + 5) = u5 := (fr2 (9 * b + 5) (by omega)).trans ((fr1 (9 * b + 5) (by omega)).trans (hu5))
  have hv_8 : z2 (9 * b + 6) = u6 := (fr2 (9 * b + 6) (by omega)).trans ((fr1 (9 * b + 6) (by omega)).trans (hu6))
  refine call_Vv (Xs := XC ad O P) (b := ad 0 (9 * b + 7)) (As := [.ref (ad 0 (9 * b + 5)), .int (iI (h1 * h1)), .ref (ad 0 (9 * b + 6)), .int (iI ((-h0) * h1))]) (rest := []) X lk_B_66 (c_W_addSum l D cs ad z2 (9 * b + 7) (9 * b + 5) (h1 * h1) (9 * b + 6) ((-h0) * h1) (by omega) (by omega) (by omega) (by omega) ⟨by omega, by omega⟩ ⟨by omega, by omega⟩) ⟨by decide, by decide⟩ (rcv_Z (by omega)) hw rfl hl.1 (Nat.le_of_ble_eq_true rfl) d_B_learn_74 rfl rfl ⟨Nat.zero_le _, Nat.zero_le _⟩ (fun _ H locs _ hw => ?_)
  obtain ⟨z3, ez3⟩ : ∃ g, g = up1 z2 (9 * b + 7) (z2 (9 * b + 7) + z2 (9 * b + 5) * (h1 * h1) + z2 (9 * b + 6) * ((-h0) * h1)) := ⟨_, rfl⟩
  rw [← ez3] at hw
  have fr3 : ∀ j, j ≠ (9 * b + 7) → z3 j = z2 j := fun j h0 => by rw [ez3, up1_n _ h0]
  obtain ⟨w_9, ew_9⟩ : ∃ g : Int, g = w_5 + u5 * (h1 * h1) + u6 * ((-h0) * h1) := ⟨_, rfl⟩
  have hv_10 : z3 (9 * b + 7) = w_9 := by rw [ez3, up1_s, hv_6, hv_7, hv_8, ew_9]
  refine sy_aload_n X d_B_learn_77 hl 4 rfl ?_
  refine b_get [] X hw 8 hb (by decide) (tt_of k125 rfl) d_B_learn_78 ?_
  refine sy_iload X d_B_learn_81 hl 1 rfl ?_
  have hv_11 : z3 (9 * b + 8) = u8 := (fr3 (9 * b + 8) (by omega)).trans ((fr2 (9 * b + 8) (by omega)).trans ((fr1 (9 * b + 8) (by omega)).trans (hu8)))
  refine call_Vv (Xs := XC ad O P) (b := ad 0 (9 * b + 8)) (As := [.int (iI r)]) (rest := []) X lk_B_63 (c_W_scale l D cs ad z3 (9 * b + 8) r (by omega) ⟨by omega, by omega⟩) ⟨by decide, by decide⟩ (rcv_Z (by omega)) hw rfl hl.1 (Nat.le_of_ble_eq_true rfl) d_B_learn_83 rfl rfl ⟨Nat.zero_le _, Nat.zero_le _⟩ (fun _ H locs _ hw => ?_)
  obtain ⟨z4, ez4⟩ : ∃ g, g = up1 z3 (9 * b + 8) (z3 (9 * b + 8) * r) := ⟨_, rfl⟩
  rw [← ez4] at hw
  have fr4 : ∀ j, j ≠ (9 * b + 8) → z4 j = z3 j := fun j h0 => by rw [ez4, up1_n _ h0]
  obtain ⟨w_12, ew_12⟩ : ∃ g : Int, g = u8 * r := ⟨_, rfl⟩
  have hv_13 : z4 (9 * b + 8) = w_12 := by rw [ez4, up1_s, hv_11, ew_12]
  refine sy_aload_n X d_B_learn_86 hl 4 rfl ?_
  refine b_get [] X hw 8 hb (by decide) (tt_of k125 rfl) d_B_learn_87 ?_
  refine sy_aload_n X d_B_learn_90 hl 4 rfl ?_
  refine b_get [] X hw 1 hb (by decide) (tt_of k116 rfl) d_B_learn_91 ?_
  refine sy_iload X d_B_learn_94 hl 0 rfl ?_
  refine sy_iload_n X d_B_learn_96 hl 2 rfl ?_
  refine sy_imul X d_B_learn_97 ?_
  refine sy_aload_n X d_B_learn_98 hl 4 rfl ?_
  refine b_get [] X hw 2 hb (by decide) (tt_of k117 rfl) d_B_learn_99 ?_
  refine sy_iload X d_B_learn_102 hl 0 rfl ?_
  refine sy_ineg X d_B_learn_104 ?_
  refine sy_iload_n X d_B_learn_105 hl 3 rfl ?_
  refine sy_imul X d_B_learn_106 ?_
  have hv_14 : z4 (9 * b + 1) = u1 := (fr4 (9 * b + 1) (by omega)).trans ((fr3 (9 * b + 1) (by omega)).trans ((fr2 (9 * b + 1) (by omega)).trans ((fr1 (9 * b + 1) (by omega)).trans (hu1))))
  have hv_15 : z4 (9 * b + 2) = u2 := (fr4 (9 * b + 2) (by omega)).trans ((fr3 (9 * b + 2) (by omega)).trans ((fr2 (9 * b + 2) (by omega)).trans (hv_4)))
  refine call_Vv (Xs := XC ad O P) (b := ad 0 (9 * b + 8)) (As := [.ref (ad 0 (9 * b + 1)), .int (iI (x * h1)), .ref (ad 0 (9 * b + 2)), .int (iI ((-x) * h0))]) (rest := []) X lk_B_66 (c_W_addSum l D cs ad z4 (9 * b + 8) (9 * b + 1) (x * h1) (9 * b + 2) ((-x) * h0) (by omega) (by omega) (by omega) (by omega) ⟨by omega, by omega⟩ ⟨by omega, by omega⟩) ⟨by decide, by decide⟩ (rcv_Z (by omega)) hw rfl hl.1 (Nat.le_of_ble_eq_true rfl) d_B_learn_107 rfl rfl ⟨Nat.zero_le _, Nat.zero_le _⟩ (fun _ H locs _ hw => ?_)
  obtain ⟨z5, ez5⟩ : ∃ g, g = up1 z4 (9 * b + 8) (z4 (9 * b + 8) + z4 (9 * b + 1) * (x * h1) + z4 (9 * b + 2) * ((-x) * h0)) := ⟨_, rfl⟩
  rw [← ez5] at hw
  have fr5 : ∀ j, j ≠ (9 * b + 8) → z5 j = z4 j := fun j h0 => by rw [ez5, up1_n _ h0]
  obtain ⟨w_16, ew_16⟩ : ∃ g : Int, g = w_12 + u1 * (x * h1) + u2 * ((-x) * h0) := ⟨_, rfl⟩
  have hv_17 : z5 (9 * b + 8) = w_16 := by rw [ez5, up1_s, hv_13, hv_14, hv_15, ew_16]
  refine sy_aload_n X d_B_learn_110 hl 4 rfl ?_
  refine b_get [] X hw 8 hb (by decide) (tt_of k125 rfl) d_B_learn_111 ?_
  refine sy_aload_n X d_B_learn_114 hl 4 rfl ?_
  refine b_get [] X hw 6 hb (by decide) (tt_of k122 rfl) d_B_learn_115 ?_
  refine sy_iload_n X d_B_learn_118 hl 3 rfl ?_
  refine sy_iload_n X d_B_learn_119 hl 3 rfl ?_
  refine sy_imul X d_B_learn_120 ?_
  refine sy_aload_n X d_B_learn_121 hl 4 rfl ?_
  refine b_get [] X hw 5 hb (by decide) (tt_of k121 rfl) d_B_learn_122 ?_
  refine sy_iload_n X d_B_learn_125 hl 3 rfl ?_
  refine sy_ineg X d_B_learn_126 ?_
  refine sy_iload_n X d_B_learn_127 hl 2 rfl ?_
  refine sy_imul X d_B_learn_128 ?_
  have hv_18 : z5 (9 * b + 6) = u6 := (fr5 (9 * b + 6) (by omega)).trans ((fr4 (9 * b + 6) (by omega)).trans ((fr3 (9 * b + 6) (by omega)).trans (hv_8)))
  have hv_19 : z5 (9 * b + 5) = u5 := (fr5 (9 * b + 5) (by omega)).trans ((fr4 (9 * b + 5) (by omega)).trans ((fr3 (9 * b + 5) (by omega)).trans (hv_7)))
  refine call_Vv (Xs := XC ad O P) (b := ad 0 (9 * b + 8)) (As := [.ref (ad 0 (9 * b + 6)), .int (iI (h0 * h0)), .ref (ad 0 (9 * b + 5)), .int (iI ((-h0) * h1))]) (rest := []) X lk_B_66 (c_W_addSum l D cs ad z5 (9 * b + 8) (9 * b + 6) (h0 * h0) (9 * b + 5) ((-h0) * h1) (by omega) (by omega) (by omega) (by omega) ⟨by omega, by omega⟩ ⟨by omega, by omega⟩) ⟨by decide, by decide⟩ (rcv_Z (by omega)) hw rfl hl.1 (Nat.le_of_ble_eq_true rfl) d_B_learn_129 rfl rfl ⟨Nat.zero_le _, Nat.zero_le _⟩ (fun _ H locs _ hw => ?_)
  obtain ⟨z6, ez6⟩ : ∃ g, g = up1 z5 (9 * b + 8) (z5 (9 * b + 8) + z5 (9 * b + 6) * (h0 * h0) + z5 (9 * b + 5) * ((-h0) * h1)) := ⟨_, rfl⟩
  rw [← ez6] at hw
  have fr6 : ∀ j, j ≠ (9 * b + 8) → z6 j = z5 j := fun j h0 => by rw [ez6, up1_n _ h0]
  obtain ⟨w_20, ew_20⟩ : ∃ g : Int, g = w_16 + u6 * (h0 * h0) + u5 * ((-h0) * h1) := ⟨_, rfl⟩
  have hv_21 : z6 (9 * b + 8) = w_20 := by rw [ez6, up1_s, hv_17, hv_18, hv_19, ew_20]
  refine sy_aload_n X d_B_learn_132 hl 4 rfl ?_
  refine b_get [] X hw 4 hb (by decide) (tt_of k119 rfl) d_B_learn_133 ?_
  refine sy_iload X d_B_learn_136 hl 1 rfl ?_
  have hv_22 : z6 (9 * b + 4) = u4 := (fr6 (9 * b + 4) (by omega)).trans ((fr5 (9 * b + 4) (by omega)).trans ((fr4 (9 * b + 4) (by omega)).trans ((fr3 (9 * b + 4) (by omega)).trans ((fr2 (9 * b + 4) (by omega)).trans ((fr1 (9 * b + 4) (by omega)).trans (hu4))))))
  refine call_Vv (Xs := XC ad O P) (b := ad 0 (9 * b + 4)) (As := [.int (iI r)]) (rest := []) X lk_B_63 (c_W_scale l D cs ad z6 (9 * b + 4) r (by omega) ⟨by omega, by omega⟩) ⟨by decide, by decide⟩ (rcv_Z (by omega)) hw rfl hl.1 (Nat.le_of_ble_eq_true rfl) d_B_learn_138 rfl rfl ⟨Nat.zero_le _, Nat.zero_le _⟩ (fun _ H locs _ hw => ?_)
  obtain ⟨z7, ez7⟩ : ∃ g, g = up1 z6 (9 * b + 4) (z6 (9 * b + 4) * r) := ⟨_, rfl⟩
  rw [← ez7] at hw
  have fr7 : ∀ j, j ≠ (9 * b + 4) → z7 j = z6 j := fun j h0 => by rw [ez7, up1_n _ h0]
  obtain ⟨w_23, ew_23⟩ : ∃ g : Int, g = u4 * r := ⟨_, rfl⟩
  have hv_24 : z7 (9 * b + 4) = w_23 := by rw [ez7, up1_s, hv_22, ew_23]
  refine sy_aload_n X d_B_learn_141 hl 4 rfl ?_
  refine b_get [] X hw 4 hb (by decide) (tt_of k119 rfl) d_B_learn_142 ?_
  refine sy_aload_n X d_B_learn_145 hl 4 rfl ?_
  refine b_get [] X hw 1 hb (by decide) (tt_of k116 rfl) d_B_learn_146 ?_
  refine sy_iload_n X d_B_learn_149 hl 2 rfl ?_
  refine sy_iload_n X d_B_learn_150 hl 2 rfl ?_
  refine sy_imul X d_B_learn_151 ?_
  refine sy_aload_n X d_B_learn_152 hl 4 rfl ?_
  refine b_get [] X hw 3 hb (by decide) (tt_of k118 rfl) d_B_learn_153 ?_
  refine sy_iload_n X d_B_learn_156 hl 3 rfl ?_
  refine sy_iload_n X d_B_learn_157 hl 3 rfl ?_
  refine sy_imul X d_B_learn_158 ?_
  have hv_25 : z7 (9 * b + 1) = u1 := (fr7 (9 * b + 1) (by omega)).trans ((fr6 (9 * b + 1) (by omega)).trans ((fr5 (9 * b + 1) (by omega)).trans (hv_14)))
  have hv_26 : z7 (9 * b + 3) = u3 := (fr7 (9 * b + 3) (by omega)).trans ((fr6 (9 * b + 3) (by omega)).trans ((fr5 (9 * b + 3) (by omega)).trans ((fr4 (9 * b + 3) (by omega)).trans ((fr3 (9 * b + 3) (by omega)).trans ((fr2 (9 * b + 3) (by omega)).trans (hv_3))))))
  refine call_Vv (Xs := XC ad O P) (b := ad 0 (9 * b + 4)) (As := [.ref (ad 0 (9 * b + 1)), .int (iI (h1 * h1)), .ref (ad 0 (9 * b + 3)), .int (iI (h0 * h0))]) (rest := []) X lk_B_66 (c_W_addSum l D cs ad z7 (9 * b + 4) (9 * b + 1) (h1 * h1) (9 * b + 3) (h0 * h0) (by omega) (by omega) (by omega) (by omega) ⟨by omega, by omega⟩ ⟨by omega, by omega⟩) ⟨by decide, by decide⟩ (rcv_Z (by omega)) hw rfl hl.1 (Nat.le_of_ble_eq_true rfl) d_B_learn_159 rfl rfl ⟨Nat.zero_le _, Nat.zero_le _⟩ (fun _ H locs _ hw => ?_)
  obtain ⟨z8, ez8⟩ : ∃ g, g = up1 z7 (9 * b + 4) (z7 (9 * b + 4) + z7 (9 * b + 1) * (h1 * h1) + z7 (9 * b + 3) * (h0 * h0)) := ⟨_, rfl⟩
  rw [← ez8] at hw
  have fr8 : ∀ j, j ≠ (9 * b + 4) → z8 j = z7 j := fun j h0 => by rw [ez8, up1_n _ h0]
  obtain ⟨w_27, ew_27⟩ : ∃ g : Int, g = w_23 + u1 * (h1 * h1) + u3 * (h0 * h0) := ⟨_, rfl⟩
  have hv_28 : z8 (9 * b + 4) = w_27 := by rw [ez8, up1_s, hv_24, hv_25, hv_26, ew_27]
  refine sy_aload_n X d_B_learn_162 hl 4 rfl ?_
  refine b_get [] X hw 4 hb (by decide) (tt_of k119 rfl) d_B_learn_163 ?_
  refine sy_aload_n X d_B_learn_166 hl 4 rfl ?_
  refine b_get [] X hw 2 hb (by decide) (tt_of k117 rfl) d_B_learn_167 ?_
  refine sy_bipush X d_B_learn_170 (by decide) ?_
  refine sy_iload_n X d_B_learn_172 hl 3 rfl ?_
  refine sy_imul X d_B_learn_173 ?_
  refine sy_iload_n X d_B_learn_174 hl 2 rfl ?_
  refine sy_imul X d_B_learn_175 ?_
  have hv_29 : z8 (9 * b + 2) = u2 := (fr8 (9 * b + 2) (by omega)).trans ((fr7 (9 * b + 2) (by omega)).trans ((fr6 (9 * b + 2) (by omega)).trans ((fr5 (9 * b + 2) (by omega)).trans (hv_15))))
  refine call_Vv (Xs := XC ad O P) (b := ad 0 (9 * b + 4)) (As := [.ref (ad 0 (9 * b + 2)), .int (iI (((-2) * h0) * h1))]) (rest := []) X lk_B_70 (c_W_addTimes l D cs ad z8 (9 * b + 4) (9 * b + 2) (((-2) * h0) * h1) (by omega) (by omega) ⟨by omega, by omega⟩) ⟨by decide, by decide⟩ (rcv_Z (by omega)) hw rfl hl.1 (Nat.le_of_ble_eq_true rfl) d_B_learn_176 rfl rfl ⟨Nat.zero_le _, Nat.zero_le _⟩ (fun _ H locs _ hw => ?_)
  obtain ⟨z9, ez9⟩ : ∃ g, g = up1 z8 (9 * b + 4) (z8 (9 * b + 4) + z8 (9 * b + 2) * (((-2) * h0) * h1)) := ⟨_, rfl⟩
  rw [← ez9] at hw
  have fr9 : ∀ j, j ≠ (9 * b + 4) → z9 j = z8 j := fun j h0 => by rw [ez9, up1_n _ h0]
  obtain ⟨w_30, ew_30⟩ : ∃ g : Int, g = w_27 + u2 * (((-2) * h0) * h1) := ⟨_, rfl⟩
  have hv_31 : z9 (9 * b + 4) = w_30 := by rw [ez9, up1_s, hv_28, hv_29, ew_30]
  refine sy_aload_n X d_B_learn_179 hl 4 rfl ?_
  refine b_get [] X hw 5 hb (by decide) (tt_of k121 rfl) d_B_learn_180 ?_
  refine sy_iload X d_B_learn_183 hl 1 rfl ?_
  have hv_32 : z9 (9 * b + 5) = u5 := (fr9 (9 * b + 5) (by omega)).trans ((fr8 (9 * b + 5) (by omega)).trans ((fr7 (9 * b + 5) (by omega)).trans ((fr6 (9 * b + 5) (by omega)).trans (hv_19))))
  refine call_Vv (Xs := XC ad O P) (b := ad 0 (9 * b + 5)) (As := [.int (iI r)]) (rest := []) X lk_B_63 (c_W_scale l D cs ad z9 (9 * b + 5) r (by omega) ⟨by omega, by omega⟩) ⟨by decide, by decide⟩ (rcv_Z (by omega)) hw rfl hl.1 (Nat.le_of_ble_eq_true rfl) d_B_learn_185 rfl rfl ⟨Nat.zero_le _, Nat.zero_le _⟩ (fun _ H locs _ hw => ?_)
  obtain ⟨z10, ez10⟩ : ∃ g, g = up1 z9 (9 * b + 5) (z9 (9 * b + 5) * r) := ⟨_, rfl⟩
  rw [← ez10] at hw
  have fr10 : ∀ j, j ≠ (9 * b + 5) → z10 j = z9 j := fun j h0 => by rw [ez10, up1_n _ h0]
  obtain ⟨w_33, ew_33⟩ : ∃ g : Int, g = u5 * r := ⟨_, rfl⟩
  have hv_34 : z10 (9 * b + 5) = w_33 := by rw [ez10, up1_s, hv_32, ew_33]
  refine sy_aload_n X d_B_learn_188 hl 4 rfl ?_
  refine b_get [] X hw 5 hb (by decide) (tt_of k121 rfl) d_B_learn_189 ?_
  refine sy_aload_n X d_B_learn_192 hl 4 rfl ?_
  refine b_get [] X hw 0 hb (by decide) (tt_of k115 rfl) d_B_learn_193 ?_
  refine sy_iload X d_B_learn_196 hl 0 rfl ?_
  refine sy_iload_n X d_B_learn_198 hl 3 rfl ?_
  refine sy_imul X d_B_learn_199 ?_
  have hv_35 : z10 (9 * b + 0) = u0 := (fr10 (9 * b + 0) (by omega)).trans ((fr9 (9 * b + 0) (by omega)).trans ((fr8 (9 * b + 0) (by omega)).trans ((fr7 (9 * b + 0) (by omega)).trans ((fr6 (9 * b + 0) (by omega)).trans ((fr5 (9 * b + 0) (by omega)).trans ((fr4 (9 * b + 0) (by omega)).trans ((fr3 (9 * b + 0) (by omega)).trans ((fr2 (9 * b + 0) (by omega)).trans ((fr1 (9 * b + 0) (by omega)).trans (hu0))))))))))
  refine call_Vv (Xs := XC ad O P) (b := ad 0 (9 * b + 5)) (As := [.ref (ad 0 (9 * b + 0)), .int (iI (x * h0))]) (rest := []) X lk_B_70 (c_W_addTimes l D cs ad z10 (9 * b + 5) (9 * b + 0) (x * h0) (by omega) (by omega) ⟨by omega, by omega⟩) ⟨by decide, by decide⟩ (rcv_Z (by omega)) hw rfl hl.1 (Nat.le_of_ble_eq_true rfl) d_B_learn_200 rfl rfl ⟨Nat.zero_le _, Nat.zero_le _⟩ (fun _ H locs _ hw => ?_)
  obtain ⟨z11, ez11⟩ : ∃ g, g = up1 z10 (9 * b + 5) (z10 (9 * b + 5) + z10 (9 * b + 0) * (x * h0)) := ⟨_, rfl⟩
  rw [← ez11] at hw
  have fr11 : ∀ j, j ≠ (9 * b + 5) → z11 j = z10 j := fun j h0 => by rw [ez11, up1_n _ h0]
  obtain ⟨w_36, ew_36⟩ : ∃ g : Int, g = w_33 + u0 * (x * h0) := ⟨_, rfl⟩
  have hv_37 : z11 (9 * b + 5) = w_36 := by rw [ez11, up1_s, hv_34, hv_35, ew_36]
  refine sy_aload_n X d_B_learn_203 hl 4 rfl ?_
  refine b_get [] X hw 6 hb (by decide) (tt_of k122 rfl) d_B_learn_204 ?_
  refine sy_iload X d_B_learn_207 hl 1 rfl ?_
  have hv_38 : z11 (9 * b + 6) = u6 := (fr11 (9 * b + 6) (by omega)).trans ((fr10 (9 * b + 6) (by omega)).trans ((fr9 (9 * b + 6) (by omega)).trans ((fr8 (9 * b + 6) (by omega)).trans ((fr7 (9 * b + 6) (by omega)).trans ((fr6 (9 * b + 6) (by omega)).trans (hv_18))))))
  refine call_Vv (Xs := XC ad O P) (b := ad 0 (9 * b + 6)) (As := [.int (iI r)]) (rest := []) X lk_B_63 (c_W_scale l D cs ad z11 (9 * b + 6) r (by omega) ⟨by omega, by omega⟩) ⟨by decide, by decide⟩ (rcv_Z (by omega)) hw rfl hl.1 (Nat.le_of_ble_eq_true rfl) d_B_learn_209 rfl rfl ⟨Nat.zero_le _, Nat.zero_le _⟩ (fun _ H locs _ hw => ?_)
  obtain ⟨z12, ez12⟩ : ∃ g, g = up1 z11 (9 * b + 6) (z11 (9 * b + 6) * r) := ⟨_, rfl⟩
  rw [← ez12] at hw
  have fr12 : ∀ j, j ≠ (9 * b + 6) → z12 j = z11 j := fun j h0 => by rw [ez12, up1_n _ h0]
  obtain ⟨w_39, ew_39⟩ : ∃ g : Int, g = u6 * r := ⟨_, rfl⟩
  have hv_40 : z12 (9 * b + 6) = w_39 := by rw [ez12, up1_s, hv_38, ew_39]
  refine sy_aload_n X d_B_learn_212 hl 4 rfl ?_
  refine b_get [] X hw 6 hb (by decide) (tt_of k122 rfl) d_B_learn_213 ?_
  refine sy_aload_n X d_B_learn_216 hl 4 rfl ?_
  refine b_get [] X hw 0 hb (by decide) (tt_of k115 rfl) d_B_learn_217 ?_
  refine sy_iload X d_B_learn_220 hl 0 rfl ?_
  refine sy_iload_n X d_B_learn_222 hl 2 rfl ?_
  refine sy_imul X d_B_learn_223 ?_
  have hv_41 : z12 (9 * b + 0) = u0 := (fr12 (9 * b + 0) (by omega)).trans ((fr11 (9 * b + 0) (by omega)).trans (hv_35))
  refine call_Vv (Xs := XC ad O P) (b := ad 0 (9 * b + 6)) (As := [.ref (ad 0 (9 * b + 0)), .int (iI (x * h1))]) (rest := []) X lk_B_70 (c_W_addTimes l D cs ad z12 (9 * b + 6) (9 * b + 0) (x * h1) (by omega) (by omega) ⟨by omega, by omega⟩) ⟨by decide, by decide⟩ (rcv_Z (by omega)) hw rfl hl.1 (Nat.le_of_ble_eq_true rfl) d_B_learn_224 rfl rfl ⟨Nat.zero_le _, Nat.zero_le _⟩ (fun _ H locs _ hw => ?_)
  obtain ⟨z13, ez13⟩ : ∃ g, g = up1 z12 (9 * b + 6) (z12 (9 * b + 6) + z12 (9 * b + 0) * (x * h1)) := ⟨_, rfl⟩
  rw [← ez13] at hw
  have fr13 : ∀ j, j ≠ (9 * b + 6) → z13 j = z12 j := fun j h0 => by rw [ez13, up1_n _ h0]
  obtain ⟨w_42, ew_42⟩ : ∃ g : Int, g = w_39 + u0 * (x * h1) := ⟨_, rfl⟩
  have hv_43 : z13 (9 * b + 6) = w_42 := by rw [ez13, up1_s, hv_40, hv_41, ew_42]
  refine sy_aload_n X d_B_learn_227 hl 4 rfl ?_
  refine b_get [] X hw 1 hb (by decide) (tt_of k116 rfl) d_B_learn_228 ?_
  refine sy_iload X d_B_learn_231 hl 1 rfl ?_
  have hv_44 : z13 (9 * b + 1) = u1 := (fr13 (9 * b + 1) (by omega)).trans ((fr12 (9 * b + 1) (by omega)).trans ((fr11 (9 * b + 1) (by omega)).trans ((fr10 (9 * b + 1) (by omega)).trans ((fr9 (9 * b + 1) (by omega)).trans ((fr8 (9 * b + 1) (by omega)).trans (hv_25))))))
  refine call_Vv (Xs := XC ad O P) (b := ad 0 (9 * b + 1)) (As := [.int (iI r)]) (rest := []) X lk_B_63 (c_W_scale l D cs ad z13 (9 * b + 1) r (by omega) ⟨by omega, by omega⟩) ⟨by decide, by decide⟩ (rcv_Z (by omega)) hw rfl hl.1 (Nat.le_of_ble_eq_true rfl) d_B_learn_233 rfl rfl ⟨Nat.zero_le _, Nat.zero_le _⟩ (fun _ H locs _ hw => ?_)
  obtain ⟨z14, ez14⟩ : ∃ g, g = up1 z13 (9 * b + 1) (z13 (9 * b + 1) * r) := ⟨_, rfl⟩
  rw [← ez14] at hw
  have fr14 : ∀ j, j ≠ (9 * b + 1) → z14 j = z13 j := fun j h0 => by rw [ez14, up1_n _ h0]
  obtain ⟨w_45, ew_45⟩ : ∃ g : Int, g = u1 * r := ⟨_, rfl⟩
  have hv_46 : z14 (9 * b + 1) = w_45 := by rw [ez14, up1_s, hv_44, ew_45]
  refine sy_aload_n X d_B_learn_236 hl 4 rfl ?_
  refine b_get [] X hw 1 hb (by decide) (tt_of k116 rfl) d_B_learn_237 ?_
  refine sy_aload_n X d_B_learn_240 hl 4 rfl ?_
  refine b_get [] X hw 0 hb (by decide) (tt_of k115 rfl) d_B_learn_241 ?_
  refine sy_iload_n X d_B_learn_244 hl 3 rfl ?_
  refine sy_iload_n X d_B_learn_245 hl 3 rfl ?_
  refine sy_imul X d_B_learn_246 ?_
  have hv_47 : z14 (9 * b + 0) = u0 := (fr14 (9 * b + 0) (by omega)).trans ((fr13 (9 * b + 0) (by omega)).trans (hv_41))
  refine call_Vv (Xs := XC ad O P) (b := ad 0 (9 * b + 1)) (As := [.ref (ad 0 (9 * b + 0)), .int (iI (h0 * h0))]) (rest := []) X lk_B_70 (c_W_addTimes l D cs ad z14 (9 * b + 1) (9 * b + 0) (h0 * h0) (by omega) (by omega) ⟨by omega, by omega⟩) ⟨by decide, by decide⟩ (rcv_Z (by omega)) hw rfl hl.1 (Nat.le_of_ble_eq_true rfl) d_B_learn_247 rfl rfl ⟨Nat.zero_le _, Nat.zero_le _⟩ (fun _ H locs _ hw => ?_)
  obtain ⟨z15, ez15⟩ : ∃ g, g = up1 z14 (9 * b + 1) (z14 (9 * b + 1) + z14 (9 * b + 0) * (h0 * h0)) := ⟨_, rfl⟩
  rw [← ez15] at hw
  have fr15 : ∀ j, j ≠ (9 * b + 1) → z15 j = z14 j := fun j h0 => by rw [ez15, up1_n _ h0]
  obtain ⟨w_48, ew_48⟩ : ∃ g : Int, g = w_45 + u0 * (h0 * h0) := ⟨_, rfl⟩
  have hv_49 : z15 (9 * b + 1) = w_48 := by rw [ez15, up1_s, hv_46, hv_47, ew_48]
  refine sy_aload_n X d_B_learn_250 hl 4 rfl ?_
  refine b_get [] X hw 2 hb (by decide) (tt_of k117 rfl) d_B_learn_251 ?_
  refine sy_iload X d_B_learn_254 hl 1 rfl ?_
  have hv_50 : z15 (9 * b + 2) = u2 := (fr15 (9 * b + 2) (by omega)).trans ((fr14 (9 * b + 2) (by omega)).trans ((fr13 (9 * b + 2) (by omega)).trans ((fr12 (9 * b + 2) (by omega)).trans ((fr11 (9 * b + 2) (by omega)).trans ((fr10 (9 * b + 2) (by omega)).trans ((fr9 (9 * b + 2) (by omega)).trans (hv_29)))))))
  refine call_Vv (Xs := XC ad O P) (b := ad 0 (9 * b + 2)) (As := [.int (iI r)]) (rest := []) X lk_B_63 (c_W_scale l D cs ad z15 (9 * b + 2) r (by omega) ⟨by omega, by omega⟩) ⟨by decide, by decide⟩ (rcv_Z (by omega)) hw rfl hl.1 (Nat.le_of_ble_eq_true rfl) d_B_learn_256 rfl rfl ⟨Nat.zero_le _, Nat.zero_le _⟩ (fun _ H locs _ hw => ?_)
  obtain ⟨z16, ez16⟩ : ∃ g, g = up1 z15 (9 * b + 2) (z15 (9 * b + 2) * r) := ⟨_, rfl⟩
  rw [← ez16] at hw
  have fr16 : ∀ j, j ≠ (9 * b + 2) → z16 j = z15 j := fun j h0 => by rw [ez16, up1_n _ h0]
  obtain ⟨w_51, ew_51⟩ : ∃ g : Int, g = u2 * r := ⟨_, rfl⟩
  have hv_52 : z16 (9 * b + 2) = w_51 := by rw [ez16, up1_s, hv_50, ew_51]
  refine sy_aload_n X d_B_learn_259 hl 4 rfl ?_
  refine b_get [] X hw 2 hb (by decide) (tt_of k117 rfl) d_B_learn_260 ?_
  refine sy_aload_n X d_B_learn_263 hl 4 rfl ?_
  refine b_get [] X hw 0 hb (by decide) (tt_of k115 rfl) d_B_learn_264 ?_
  refine sy_iload_n X d_B_learn_267 hl 3 rfl ?_
  refine sy_iload_n X d_B_learn_268 hl 2 rfl ?_
  refine sy_imul X d_B_learn_269 ?_
  have hv_53 : z16 (9 * b + 0) = u0 := (fr16 (9 * b + 0) (by omega)).trans ((fr15 (9 * b + 0) (by omega)).trans (hv_47))
  refine call_Vv (Xs := XC ad O P) (b := ad 0 (9 * b + 2)) (As := [.ref (ad 0 (9 * b + 0)), .int (iI (h0 * h1))]) (rest := []) X lk_B_70 (c_W_addTimes l D cs ad z16 (9 * b + 2) (9 * b + 0) (h0 * h1) (by omega) (by omega) ⟨by omega, by omega⟩) ⟨by decide, by decide⟩ (rcv_Z (by omega)) hw rfl hl.1 (Nat.le_of_ble_eq_true rfl) d_B_learn_270 rfl rfl ⟨Nat.zero_le _, Nat.zero_le _⟩ (fun _ H locs _ hw => ?_)
  obtain ⟨z17, ez17⟩ : ∃ g, g = up1 z16 (9 * b + 2) (z16 (9 * b + 2) + z16 (9 * b + 0) * (h0 * h1)) := ⟨_, rfl⟩
  rw [← ez17] at hw
  have fr17 : ∀ j, j ≠ (9 * b + 2) → z17 j = z16 j := fun j h0 => by rw [ez17, up1_n _ h0]
  obtain ⟨w_54, ew_54⟩ : ∃ g : Int, g = w_51 + u0 * (h0 * h1) := ⟨_, rfl⟩
  have hv_55 : z17 (9 * b + 2) = w_54 := by rw [ez17, up1_s, hv_52, hv_53, ew_54]
  refine sy_aload_n X d_B_learn_273 hl 4 rfl ?_
  refine b_get [] X hw 3 hb (by decide) (tt_of k118 rfl) d_B_learn_274 ?_
  refine sy_iload X d_B_learn_277 hl 1 rfl ?_
  have hv_56 : z17 (9 * b + 3) = u3 := (fr17 (9 * b + 3) (by omega)).trans ((fr16 (9 * b + 3) (by omega)).trans ((fr15 (9 * b + 3) (by omega)).trans ((fr14 (9 * b + 3) (by omega)).trans ((fr13 (9 * b + 3) (by omega)).trans ((fr12 (9 * b + 3) (by omega)).trans ((fr11 (9 * b + 3) (by omega)).trans ((fr10 (9 * b + 3) (by omega)).trans ((fr9 (9 * b + 3) (by omega)).trans ((fr8 (9 * b + 3) (by omega)).trans (hv_26))))))))))
  refine call_Vv (Xs := XC ad O P) (b := ad 0 (9 * b + 3)) (As := [.int (iI r)]) (rest := []) X lk_B_63 (c_W_scale l D cs ad z17 (9 * b + 3) r (by omega) ⟨by omega, by omega⟩) ⟨by decide, by decide⟩ (rcv_Z (by omega)) hw rfl hl.1 (Nat.le_of_ble_eq_true rfl) d_B_learn_279 rfl rfl ⟨Nat.zero_le _, Nat.zero_le _⟩ (fun _ H locs _ hw => ?_)
  obtain ⟨z18, ez18⟩ : ∃ g, g = up1 z17 (9 * b + 3) (z17 (9 * b + 3) * r) := ⟨_, rfl⟩
  rw [← ez18] at hw
  have fr18 : ∀ j, j ≠ (9 * b + 3) → z18 j = z17 j := fun j h0 => by rw [ez18, up1_n _ h0]
  obtain ⟨w_57, ew_57⟩ : ∃ g : Int, g = u3 * r := ⟨_, rfl⟩
  have hv_58 : z18 (9 * b + 3) = w_57 := by rw [ez18, up1_s, hv_56, ew_57]
  refine sy_aload_n X d_B_learn_282 hl 4 rfl ?_
  refine b_get [] X hw 3 hb (by decide) (tt_of k118 rfl) d_B_learn_283 ?_
  refine sy_aload_n X d_B_learn_286 hl 4 rfl ?_
  refine b_get [] X hw 0 hb (by decide) (tt_of k115 rfl) d_B_learn_287 ?_
  refine sy_iload_n X d_B_learn_290 hl 2 rfl ?_
  refine sy_iload_n X d_B_learn_291 hl 2 rfl ?_
  refine sy_imul X d_B_learn_292 ?_
  have hv_59 : z18 (9 * b + 0) = u0 := (fr18 (9 * b + 0) (by omega)).trans ((fr17 (9 * b + 0) (by omega)).trans (hv_53))
  refine call_Vv (Xs := XC ad O P) (b := ad 0 (9 * b + 3)) (As := [.ref (ad 0 (9 * b + 0)), .int (iI (h1 * h1))]) (rest := []) X lk_B_70 (c_W_addTimes l D cs ad z18 (9 * b + 3) (9 * b + 0) (h1 * h1) (by omega) (by omega) ⟨by omega, by omega⟩) ⟨by decide, by decide⟩ (rcv_Z (by omega)) hw rfl hl.1 (Nat.le_of_ble_eq_true rfl) d_B_learn_293 rfl rfl ⟨Nat.zero_le _, Nat.zero_le _⟩ (fun _ H locs _ hw => ?_)
  obtain ⟨z19, ez19⟩ : ∃ g, g = up1 z18 (9 * b + 3) (z18 (9 * b + 3) + z18 (9 * b + 0) * (h1 * h1)) := ⟨_, rfl⟩
  rw [← ez19] at hw
  have fr19 : ∀ j, j ≠ (9 * b + 3) → z19 j = z18 j := fun j h0 => by rw [ez19, up1_n _ h0]
  obtain ⟨w_60, ew_60⟩ : ∃ g : Int, g = w_57 + u0 * (h1 * h1) := ⟨_, rfl⟩
  have hv_61 : z19 (9 * b + 3) = w_60 := by rw [ez19, up1_s, hv_58, hv_59, ew_60]
  refine sy_aload_n X d_B_learn_296 hl 4 rfl ?_
  refine b_get [] X hw 0 hb (by decide) (tt_of k115 rfl) d_B_learn_297 ?_
  refine sy_iload X d_B_learn_300 hl 1 rfl ?_
  have hv_62 : z19 (9 * b + 0) = u0 := (fr19 (9 * b + 0) (by omega)).trans (hv_59)
  refine call_Vv (Xs := XC ad O P) (b := ad 0 (9 * b + 0)) (As := [.int (iI r)]) (rest := []) X lk_B_63 (c_W_scale l D cs ad z19 (9 * b + 0) r (by omega) ⟨by omega, by omega⟩) ⟨by decide, by decide⟩ (rcv_Z (by omega)) hw rfl hl.1 (Nat.le_of_ble_eq_true rfl) d_B_learn_302 rfl rfl ⟨Nat.zero_le _, Nat.zero_le _⟩ (fun _ H locs _ hw => ?_)
  obtain ⟨z20, ez20⟩ : ∃ g, g = up1 z19 (9 * b + 0) (z19 (9 * b + 0) * r) := ⟨_, rfl⟩
  rw [← ez20] at hw
  have fr20 : ∀ j, j ≠ (9 * b + 0) → z20 j = z19 j := fun j h0 => by rw [ez20, up1_n _ h0]
  obtain ⟨w_63, ew_63⟩ : ∃ g : Int, g = u0 * r := ⟨_, rfl⟩
  have hv_64 : z20 (9 * b + 0) = w_63 := by rw [ez20, up1_s, hv_62, ew_63]
  have hv_65 : z20 (9 * b + 1) = w_48 := (fr20 (9 * b + 1) (by omega)).trans ((fr19 (9 * b + 1) (by omega)).trans ((fr18 (9 * b + 1) (by omega)).trans ((fr17 (9 * b + 1) (by omega)).trans ((fr16 (9 * b + 1) (by omega)).trans (hv_49)))))
  have hv_66 : z20 (9 * b + 2) = w_54 := (fr20 (9 * b + 2) (by omega)).trans ((fr19 (9 * b + 2) (by omega)).trans ((fr18 (9 * b + 2) (by omega)).trans (hv_55)))
  have hv_67 : z20 (9 * b + 3) = w_60 := (fr20 (9 * b + 3) (by omega)).trans (hv_61)
  have hv_68 : z20 (9 * b + 4) = w_30 := (fr20 (9 * b + 4) (by omega)).trans ((fr19 (9 * b + 4) (by omega)).trans ((fr18 (9 * b + 4) (by omega)).trans ((fr17 (9 * b + 4) (by omega)).trans ((fr16 (9 * b + 4) (by omega)).trans ((fr15 (9 * b + 4) (by omega)).trans ((fr14 (9 * b + 4) (by omega)).trans ((fr13 (9 * b + 4) (by omega)).trans ((fr12 (9 * b + 4) (by omega)).trans ((fr11 (9 * b + 4) (by omega)).trans ((fr10 (9 * b + 4) (by omega)).trans (hv_31)))))))))))
  have hv_69 : z20 (9 * b + 5) = w_36 := (fr20 (9 * b + 5) (by omega)).trans ((fr19 (9 * b + 5) (by omega)).trans ((fr18 (9 * b + 5) (by omega)).trans ((fr17 (9 * b + 5) (by omega)).trans ((fr16 (9 * b + 5) (by omega)).trans ((fr15 (9 * b + 5) (by omega)).trans ((fr14 (9 * b + 5) (by omega)).trans ((fr13 (9 * b + 5) (by omega)).trans ((fr12 (9 * b + 5) (by omega)).trans (hv_37)))))))))
  have hv_70 : z20 (9 * b + 6) = w_42 := (fr20 (9 * b + 6) (by omega)).trans ((fr19 (9 * b + 6) (by omega)).trans ((fr18 (9 * b + 6) (by omega)).trans ((fr17 (9 * b + 6) (by omega)).trans ((fr16 (9 * b + 6) (by omega)).trans ((fr15 (9 * b + 6) (by omega)).trans ((fr14 (9 * b + 6) (by omega)).trans (hv_43)))))))
  have hv_71 : z20 (9 * b + 7) = w_9 := (fr20 (9 * b + 7) (by omega)).trans ((fr19 (9 * b + 7) (by omega)).trans ((fr18 (9 * b + 7) (by omega)).trans ((fr17 (9 * b + 7) (by omega)).trans ((fr16 (9 * b + 7) (by omega)).trans ((fr15 (9 * b + 7) (by omega)).trans ((fr14 (9 * b + 7) (by omega)).trans ((fr13 (9 * b + 7) (by omega)).trans ((fr12 (9 * b + 7) (by omega)).trans ((fr11 (9 * b + 7) (by omega)).trans ((fr10 (9 * b + 7) (by omega)).trans ((fr9 (9 * b + 7) (by omega)).trans ((fr8 (9 * b + 7) (by omega)).trans ((fr7 (9 * b + 7) (by omega)).trans ((fr6 (9 * b + 7) (by omega)).trans ((fr5 (9 * b + 7) (by omega)).trans ((fr4 (9 * b + 7) (by omega)).trans (hv_10)))))))))))))))))
  have hv_72 : z20 (9 * b + 8) = w_20 := (fr20 (9 * b + 8) (by omega)).trans ((fr19 (9 * b + 8) (by omega)).trans ((fr18 (9 * b + 8) (by omega)).trans ((fr17 (9 * b + 8) (by omega)).trans ((fr16 (9 * b + 8) (by omega)).trans ((fr15 (9 * b + 8) (by omega)).trans ((fr14 (9 * b + 8) (by omega)).trans ((fr13 (9 * b + 8) (by omega)).trans ((fr12 (9 * b + 8) (by omega)).trans ((fr11 (9 * b + 8) (by omega)).trans ((fr10 (9 * b + 8) (by omega)).trans ((fr9 (9 * b + 8) (by omega)).trans ((fr8 (9 * b + 8) (by omega)).trans ((fr7 (9 * b + 8) (by omega)).trans (hv_21))))))))))))))
  have hzf : z20 = setB z b (learnV (blB z b) h0 h1 r x) := by
    funext j
    by_cases hj : 9 * b ≤ j ∧ j < 9 * b + 9
    · obtain ⟨i9, hi9⟩ : ∃ i9, j = 9 * b + i9 ∧ i9 < 9 := ⟨j - 9 * b, by omega⟩
      obtain ⟨hij, hi9⟩ := hi9
      subst hij
      rw [setB_in hi9]
      have h9 : i9 = 0 ∨ i9 = 1 ∨ i9 = 2 ∨ i9 = 3 ∨ i9 = 4 ∨ i9 = 5 ∨ i9 = 6 ∨ i9 = 7 ∨ i9 = 8 := by omega
      rcases h9 with e9 | e9 | e9 | e9 | e9 | e9 | e9 | e9 | e9 <;> subst e9
      · rw [hv_64]; simp only [learnV, blB, hu0, hu1, hu2, hu3, hu4, hu5, hu6, hu7, hu8, ew_63, ew_60, ew_57, ew_54, ew_51, ew_48, ew_45, ew_42, ew_39, ew_36, ew_33, ew_30, ew_27, ew_23, ew_20, ew_16, ew_12, ew_9, ew_5, ew_1]
      · rw [hv_65]; simp only [learnV, blB, hu0, hu1, hu2, hu3, hu4, hu5, hu6, hu7, hu8, ew_63, ew_60, ew_57, ew_54, ew_51, ew_48, ew_45, ew_42, ew_39, ew_36, ew_33, ew_30, ew_27, ew_23, ew_20, ew_16, ew_12, ew_9, ew_5, ew_1]
      · rw [hv_66]; simp only [learnV, blB, hu0, hu1, hu2, hu3, hu4, hu5, hu6, hu7, hu8, ew_63, ew_60, ew_57, ew_54, ew_51, ew_48, ew_45, ew_42, ew_39, ew_36, ew_33, ew_30, ew_27, ew_23, ew_20, ew_16, ew_12, ew_9, ew_5, ew_1]
      · rw [hv_67]; simp only [learnV, blB, hu0, hu1, hu2, hu3, hu4, hu5, hu6, hu7, hu8, ew_63, ew_60, ew_57, ew_54, ew_51, ew_48, ew_45, ew_42, ew_39, ew_36, ew_33, ew_30, ew_27, ew_23, ew_20, ew_16, ew_12, ew_9, ew_5, ew_1]
      · rw [hv_68]; simp only [learnV, blB, hu0, hu1, hu2, hu3, hu4, hu5, hu6, hu7, hu8, ew_63, ew_60, ew_57, ew_54, ew_51, ew_48, ew_45, ew_42, ew_39, ew_36, ew_33, ew_30, ew_27, ew_23, ew_20, ew_16, ew_12, ew_9, ew_5, ew_1]
      · rw [hv_69]; simp only [learnV, blB, hu0, hu1, hu2, hu3, hu4, hu5, hu6, hu7, hu8, ew_63, ew_60, ew_57, ew_54, ew_51, ew_48, ew_45, ew_42, ew_39, ew_36, ew_33, ew_30, ew_27, ew_23, ew_20, ew_16, ew_12, ew_9, ew_5, ew_1]
      · rw [hv_70]; simp only [learnV, blB, hu0, hu1, hu2, hu3, hu4, hu5, hu6, hu7, hu8, ew_63, ew_60, ew_57, ew_54, ew_51, ew_48, ew_45, ew_42, ew_39, ew_36, ew_33, ew_30, ew_27, ew_23, ew_20, ew_16, ew_12, ew_9, ew_5, ew_1]
      · rw [hv_71]; simp only [learnV, blB, hu0, hu1, hu2, hu3, hu4, hu5, hu6, hu7, hu8, ew_63, ew_60, ew_57, ew_54, ew_51, ew_48, ew_45, ew_42, ew_39, ew_36, ew_33, ew_30, ew_27, ew_23, ew_20, ew_16, ew_12, ew_9, ew_5, ew_1]
      · rw [hv_72]; simp only [learnV, blB, hu0, hu1, hu2, hu3, hu4, hu5, hu6, hu7, hu8, ew_63, ew_60, ew_57, ew_54, ew_51, ew_48, ew_45, ew_42, ew_39, ew_36, ew_33, ew_30, ew_27, ew_23, ew_20, ew_16, ew_12, ew_9, ew_5, ew_1]
    · rw [setB_out hj]; exact (fr20 j (by omega)).trans ((fr19 j (by omega)).trans ((fr18 j (by omega)).trans ((fr17 j (by omega)).trans ((fr16 j (by omega)).trans ((fr15 j (by omega)).trans ((fr14 j (by omega)).trans ((fr13 j (by omega)).trans ((fr12 j (by omega)).trans ((fr11 j (by omega)).trans ((fr10 j (by omega)).trans ((fr9 j (by omega)).trans ((fr8 j (by omega)).trans ((fr7 j (by omega)).trans ((fr6 j (by omega)).trans ((fr5 j (by omega)).trans ((fr4 j (by omega)).trans ((fr3 j (by omega)).trans ((fr2 j (by omega)).trans ((fr1 j (by omega)).trans (rfl))))))))))))))))))))
  rw [hzf] at hw
  exact kr () _ _ _ _ d_B_learn_305 hw trivial
set_option maxRecDepth 100000 in
set_option maxHeartbeats 4000000 in
theorem c_B_addNoise (l : Launch) (D : va_G) (cs : Nat → ClassId) (ad : Nat → Nat → Nat) (O P : Nat → Nat → Int) (z : Nat → Int) (b i : Nat) (hb : b < 13) (hi : i < 4) (k0 : -99 ≤ P i 4 ∧ P i 4 ≤ 99) (k1 : -99 ≤ P i 5 ∧ P i 5 ≤ 99) (k2 : -99 ≤ P i 6 ∧ P i 6 ≤ 99) : Ct (S := Unit) l D (tyL cs) y_B_addNoise b_B_addNoise 2 none (rm 3) [.ref (ad 2 b), .ref (ad 4 i)] (wO ad cs O P z) (fun _ => True) (fun _ => none) (fun _ => wO ad cs O P (setB z b (noiseV (blB z b) (P i 4) (P i 5) (P i 6)))) := by
  refine Ct.introV (by decide) (Nat.le_of_ble_eq_true rfl) (fun _ => rfl) ?_
  intro p e s m below meth c A args Q H locs X hnm hw kr ls hl
  have X : CX D (tyL cs) R_B b_B_addNoise 2 p m c s args := X
  have hl : lv_has ls 2 [(0, .ref (ad 2 b)), (1, .ref (ad 4 i))] := hl
  obtain ⟨u0, hu0⟩ : ∃ g, z (9 * b + 0) = g := ⟨_, rfl⟩
  obtain ⟨u1, hu1⟩ : ∃ g, z (9 * b + 1) = g := ⟨_, rfl⟩
  obtain ⟨u2, hu2⟩ : ∃ g, z (9 * b + 2) = g := ⟨_, rfl⟩
  obtain ⟨u3, hu3⟩ : ∃ g, z (9 * b + 3) = g := ⟨_, rfl⟩
  obtain ⟨u4, hu4⟩ : ∃ g, z (9 * b + 4) = g := ⟨_, rfl⟩
  obtain ⟨u5, hu5⟩ : ∃ g, z (9 * b + 5) = g := ⟨_, rfl⟩
  obtain ⟨u6, hu6⟩ : ∃ g, z (9 * b + 6) = g := ⟨_, rfl⟩
  obtain ⟨u7, hu7⟩ : ∃ g, z (9 * b + 7) = g := ⟨_, rfl⟩
  obtain ⟨u8, hu8⟩ : ∃ g, z (9 * b + 8) = g := ⟨_, rfl⟩
  obtain ⟨q0, e0⟩ : ∃ g, P i 4 = g := ⟨_, rfl⟩
  obtain ⟨q1, e1⟩ : ∃ g, P i 5 = g := ⟨_, rfl⟩
  obtain ⟨q2, e2⟩ : ∃ g, P i 6 = g := ⟨_, rfl⟩
  rw [e0] at k0
  rw [e1] at k1
  rw [e2] at k2
  simp only [e0, e1, e2] at kr
  have y1 := mul99 k0 k2
  have y2 := mul99 k1 k1
  refine sy_aload_n X d_B_addNoise_0 hl 0 rfl ?_
  refine b_get [] X hw 0 hb (by decide) (tt_of k115 rfl) d_B_addNoise_1 ?_
  refine sy_aload_n X d_B_addNoise_4 hl 0 rfl ?_
  refine b_get [] X hw 1 hb (by decide) (tt_of k116 rfl) d_B_addNoise_5 ?_
  refine sy_aload_n X d_B_addNoise_8 hl 1 rfl ?_
  refine q_get [] X hw 4 hi (by decide) (tt_of k78 rfl) d_B_addNoise_9 ?_
  rw [e0]
  refine sy_aload_n X d_B_addNoise_12 hl 0 rfl ?_
  refine b_get [] X hw 3 hb (by decide) (tt_of k118 rfl) d_B_addNoise_13 ?_
  refine sy_aload_n X d_B_addNoise_16 hl 1 rfl ?_
  refine q_get [] X hw 6 hi (by decide) (tt_of k82 rfl) d_B_addNoise_17 ?_
  rw [e2]
  refine call_Vv (Xs := XC ad O P) (b := ad 0 (9 * b + 0)) (As := [.ref (ad 0 (9 * b + 1)), .int (iI q0), .ref (ad 0 (9 * b + 3)), .int (iI q2)]) (rest := []) X lk_B_66 (c_W_addSum l D cs ad z (9 * b + 0) (9 * b + 1) q0 (9 * b + 3) q2 (by omega) (by omega) (by omega) (by omega) ⟨by omega, by omega⟩ ⟨by omega, by omega⟩) ⟨by decide, by decide⟩ (rcv_Z (by omega)) hw rfl hl.1 (Nat.le_of_ble_eq_true rfl) d_B_addNoise_20 rfl rfl ⟨Nat.zero_le _, Nat.zero_le _⟩ (fun _ H locs _ hw => ?_)
  obtain ⟨z1, ez1⟩ : ∃ g, g = up1 z (9 * b + 0) (z (9 * b + 0) + z (9 * b + 1) * q0 + z (9 * b + 3) * q2) := ⟨_, rfl⟩
  rw [← ez1] at hw
  have fr1 : ∀ j, j ≠ (9 * b + 0) → z1 j = z j := fun j h0 => by rw [ez1, up1_n _ h0]
  obtain ⟨w_1, ew_1⟩ : ∃ g : Int, g = u0 + u1 * q0 + u3 * q2 := ⟨_, rfl⟩
  have hv_2 : z1 (9 * b + 0) = w_1 := by rw [ez1, up1_s, hu0, hu1, hu3, ew_1]
  refine sy_aload_n X d_B_addNoise_23 hl 0 rfl ?_
  refine b_get [] X hw 0 hb (by decide) (tt_of k115 rfl) d_B_addNoise_24 ?_
  refine sy_aload_n X d_B_addNoise_27 hl 0 rfl ?_
  refine b_get [] X hw 2 hb (by decide) (tt_of k117 rfl) d_B_addNoise_28 ?_
  refine sy_iconst X d_B_addNoise_31 ?_
  refine sy_aload_n X d_B_addNoise_32 hl 1 rfl ?_
  refine q_get [] X hw 5 hi (by decide) (tt_of k80 rfl) d_B_addNoise_33 ?_
  rw [e1]
  refine sy_imul X d_B_addNoise_36 ?_
  refine sy_aload_n X d_B_addNoise_37 hl 0 rfl ?_
  refine b_get [] X hw 4 hb (by decide) (tt_of k119 rfl) d_B_addNoise_38 ?_
  refine sy_aload_n X d_B_addNoise_41 hl 1 rfl ?_
  refine call_Vi (Xs := []) (b := ad 4 i) (As := []) (rest := [.ref (ad 0 (9 * b + 4)), .int (iI (2 * q1)), .ref (ad 0 (9 * b + 2)), .ref (ad 0 (9 * b + 0))]) X lk_B_85 (c_Q_noiseDeterminant l D cs ad O P z1 i hi) ⟨by decide, by decide⟩ (rcv_Q hi) hw rfl hl.1 (Nat.le_of_ble_eq_true rfl) d_B_addNoise_42 rfl rfl ⟨Nat.zero_le _, Nat.zero_le _⟩ (fun _ H locs _ hw => ?_)
  rw [e0, e1, e2]
  have hv_3 : z1 (9 * b + 2) = u2 := (fr1 (9 * b + 2) (by omega)).trans (hu2)
  have hv_4 : z1 (9 * b + 4) = u4 := (fr1 (9 * b + 4) (by omega)).trans (hu4)
  refine call_Vv (Xs := XC ad O P) (b := ad 0 (9 * b + 0)) (As := [.ref (ad 0 (9 * b + 2)), .int (iI (2 * q1)), .ref (ad 0 (9 * b + 4)), .int (iI (q0 * q2 - q1 * q1))]) (rest := []) X lk_B_66 (c_W_addSum l D cs ad z1 (9 * b + 0) (9 * b + 2) (2 * q1) (9 * b + 4) (q0 * q2 - q1 * q1) (by omega) (by omega) (by omega) (by omega) ⟨by omega, by omega⟩ ⟨by omega, by omega⟩) ⟨by decide, by decide⟩ (rcv_Z (by omega)) hw rfl hl.1 (Nat.le_of_ble_eq_true rfl) d_B_addNoise_45 rfl rfl ⟨Nat.zero_le _, Nat.zero_le _⟩ (fun _ H locs _ hw => ?_)
  obtain ⟨z2, ez2⟩ : ∃ g, g = up1 z1 (9 * b + 0) (z1 (9 * b + 0) + z1 (9 * b + 2) * (2 * q1) + z1 (9 * b + 4) * (q0 * q2 - q1 * q1)) := ⟨_, rfl⟩
  rw [← ez2] at hw
  have fr2 : ∀ j, j ≠ (9 * b + 0) → z2 j = z1 j := fun j h0 => by rw [ez2, up1_n _ h0]
  obtain ⟨w_5, ew_5⟩ : ∃ g : Int, g = w_1 + u2 * (2 * q1) + u4 * (q0 * q2 - q1 * q1) := ⟨_, rfl⟩
  have hv_6 : z2 (9 * b + 0) = w_5 := by rw [ez2, up1_s, hv_2, hv_3, hv_4, ew_5]
  refine sy_aload_n X d_B_addNoise_48 hl 0 rfl ?_
  refine b_get [] X hw 1 hb (by decide) (tt_of k116 rfl) d_B_addNoise_49 ?_
  refine sy_aload_n X d_B_addNoise_52 hl 0 rfl ?_
  refine b_get [] X hw 4 hb (by decide) (tt_of k119 rfl) d_B_addNoise_53 ?_
  refine sy_aload_n X d_B_addNoise_56 hl 1 rfl ?_
  refine q_get [] X hw 6 hi (by decide) (tt_of k82 rfl) d_B_addNoise_57 ?_
  rw [e2]
  have hv_7 : z2 (9 * b + 1) = u1 := (fr2 (9 * b + 1) (by omega)).trans ((fr1 (9 * b + 1) (by omega)).trans (hu1))
  have hv_8 : z2 (9 * b + 4) = u4 := (fr2 (9 * b + 4) (by omega)).trans (hv_4)
  refine call_Vv (Xs := XC ad O P) (b := ad 0 (9 * b + 1)) (As := [.ref (ad 0 (9 * b + 4)), .int (iI q2)]) (rest := []) X lk_B_70 (c_W_addTimes l D cs ad z2 (9 * b + 1) (9 * b + 4) q2 (by omega) (by omega) ⟨by omega, by omega⟩) ⟨by decide, by decide⟩ (rcv_Z (by omega)) hw rfl hl.1 (Nat.le_of_ble_eq_true rfl) d_B_addNoise_60 rfl rfl ⟨Nat.zero_le _, Nat.zero_le _⟩ (fun _ H locs _ hw => ?_)
  obtain ⟨z3, ez3⟩ : ∃ g, g = up1 z2 (9 * b + 1) (z2 (9 * b + 1) + z2 (9 * b + 4) * q2) := ⟨_, rfl⟩
  rw [← ez3] at hw
  have fr3 : ∀ j, j ≠ (9 * b + 1) → z3 j = z2 j := fun j h0 => by rw [ez3, up1_n _ h0]
  obtain ⟨w_9, ew_9⟩ : ∃ g : Int, g = u1 + u4 * q2 := ⟨_, rfl⟩
  have hv_10 : z3 (9 * b + 1) = w_9 := by rw [ez3, up1_s, hv_7, hv_8, ew_9]
  refine sy_aload_n X d_B_addNoise_63 hl 0 rfl ?_
  refine b_get [] X hw 2 hb (by decide) (tt_of k117 rfl) d_B_addNoise_64 ?_
  refine sy_aload_n X d_B_addNoise_67 hl 0 rfl ?_
  refine b_get [] X hw 4 hb (by decide) (tt_of k119 rfl) d_B_addNoise_68 ?_
  refine sy_aload_n X d_B_addNoise_71 hl 1 rfl ?_
  refine q_get [] X hw 5 hi (by decide) (tt_of k80 rfl) d_B_addNoise_72 ?_
  rw [e1]
  refine sy_ineg X d_B_addNoise_75 ?_
  have hv_11 : z3 (9 * b + 2) = u2 := (fr3 (9 * b + 2) (by omega)).trans ((fr2 (9 * b + 2) (by omega)).trans (hv_3))
  have hv_12 : z3 (9 * b + 4) = u4 := (fr3 (9 * b + 4) (by omega)).trans (hv_8)
  refine call_Vv (Xs := XC ad O P) (b := ad 0 (9 * b + 2)) (As := [.ref (ad 0 (9 * b + 4)), .int (iI (-q1))]) (rest := []) X lk_B_70 (c_W_addTimes l D cs ad z3 (9 * b + 2) (9 * b + 4) (-q1) (by omega) (by omega) ⟨by omega, by omega⟩) ⟨by decide, by decide⟩ (rcv_Z (by omega)) hw rfl hl.1 (Nat.le_of_ble_eq_true rfl) d_B_addNoise_76 rfl rfl ⟨Nat.zero_le _, Nat.zero_le _⟩ (fun _ H locs _ hw => ?_)
  obtain ⟨z4, ez4⟩ : ∃ g, g = up1 z3 (9 * b + 2) (z3 (9 * b + 2) + z3 (9 * b + 4) * (-q1)) := ⟨_, rfl⟩
  rw [← ez4] at hw
  have fr4 : ∀ j, j ≠ (9 * b + 2) → z4 j = z3 j := fun j h0 => by rw [ez4, up1_n _ h0]
  obtain ⟨w_13, ew_13⟩ : ∃ g : Int, g = u2 + u4 * (-q1) := ⟨_, rfl⟩
  have hv_14 : z4 (9 * b + 2) = w_13 := by rw [ez4, up1_s, hv_11, hv_12, ew_13]
  refine sy_aload_n X d_B_addNoise_79 hl 0 rfl ?_
  refine b_get [] X hw 3 hb (by decide) (tt_of k118 rfl) d_B_addNoise_80 ?_
  refine sy_aload_n X d_B_addNoise_83 hl 0 rfl ?_
  refine b_get [] X hw 4 hb (by decide) (tt_of k119 rfl) d_B_addNoise_84 ?_
  refine sy_aload_n X d_B_addNoise_87 hl 1 rfl ?_
  refine q_get [] X hw 4 hi (by decide) (tt_of k78 rfl) d_B_addNoise_88 ?_
  rw [e0]
  have hv_15 : z4 (9 * b + 3) = u3 := (fr4 (9 * b + 3) (by omega)).trans ((fr3 (9 * b + 3) (by omega)).trans ((fr2 (9 * b + 3) (by omega)).trans ((fr1 (9 * b + 3) (by omega)).trans (hu3))))
  have hv_16 : z4 (9 * b + 4) = u4 := (fr4 (9 * b + 4) (by omega)).trans (hv_12)
  refine call_Vv (Xs := XC ad O P) (b := ad 0 (9 * b + 3)) (As := [.ref (ad 0 (9 * b + 4)), .int (iI q0)]) (rest := []) X lk_B_70 (c_W_addTimes l D cs ad z4 (9 * b + 3) (9 * b + 4) q0 (by omega) (by omega) ⟨by omega, by omega⟩) ⟨by decide, by decide⟩ (rcv_Z (by omega)) hw rfl hl.1 (Nat.le_of_ble_eq_true rfl) d_B_addNoise_91 rfl rfl ⟨Nat.zero_le _, Nat.zero_le _⟩ (fun _ H locs _ hw => ?_)
  obtain ⟨z5, ez5⟩ : ∃ g, g = up1 z4 (9 * b + 3) (z4 (9 * b + 3) + z4 (9 * b + 4) * q0) := ⟨_, rfl⟩
  rw [← ez5] at hw
  have fr5 : ∀ j, j ≠ (9 * b + 3) → z5 j = z4 j := fun j h0 => by rw [ez5, up1_n _ h0]
  obtain ⟨w_17, ew_17⟩ : ∃ g : Int, g = u3 + u4 * q0 := ⟨_, rfl⟩
  have hv_18 : z5 (9 * b + 3) = w_17 := by rw [ez5, up1_s, hv_15, hv_16, ew_17]
  refine sy_aload_n X d_B_addNoise_94 hl 0 rfl ?_
  refine b_get [] X hw 5 hb (by decide) (tt_of k121 rfl) d_B_addNoise_95 ?_
  refine sy_aload_n X d_B_addNoise_98 hl 0 rfl ?_
  refine b_get [] X hw 7 hb (by decide) (tt_of k123 rfl) d_B_addNoise_99 ?_
  refine sy_aload_n X d_B_addNoise_102 hl 1 rfl ?_
  refine q_get [] X hw 6 hi (by decide) (tt_of k82 rfl) d_B_addNoise_103 ?_
  rw [e2]
  refine sy_aload_n X d_B_addNoise_106 hl 0 rfl ?_
  refine b_get [] X hw 8 hb (by decide) (tt_of k125 rfl) d_B_addNoise_107 ?_
  refine sy_aload_n X d_B_addNoise_110 hl 1 rfl ?_
  refine q_get [] X hw 5 hi (by decide) (tt_of k80 rfl) d_B_addNoise_111 ?_
  rw [e1]
  refine sy_ineg X d_B_addNoise_114 ?_
  have hv_19 : z5 (9 * b + 5) = u5 := (fr5 (9 * b + 5) (by omega)).trans ((fr4 (9 * b + 5) (by omega)).trans ((fr3 (9 * b + 5) (by omega)).trans ((fr2 (9 * b + 5) (by omega)).trans ((fr1 (9 * b + 5) (by omega)).trans (hu5)))))
  have hv_20 : z5 (9 * b + 7) = u7 := (fr5 (9 * b + 7) (by omega)).trans ((fr4 (9 * b + 7) (by omega)).trans ((fr3 (9 * b + 7) (by omega)).trans ((fr2 (9 * b + 7) (by omega)).trans ((fr1 (9 * b + 7) (by omega)).trans (hu7)))))
  have hv_21 : z5 (9 * b + 8) = u8 := (fr5 (9 * b + 8) (by omega)).trans ((fr4 (9 * b + 8) (by omega)).trans ((fr3 (9 * b + 8) (by omega)).trans ((fr2 (9 * b + 8) (by omega)).trans ((fr1 (9 * b + 8) (by omega)).trans (hu8)))))
  refine call_Vv (Xs := XC ad O P) (b := ad 0 (9 * b + 5)) (As := [.ref (ad 0 (9 * b + 7)), .int (iI q2), .ref (ad 0 (9 * b + 8)), .int (iI (-q1))]) (rest := []) X lk_B_66 (c_W_addSum l D cs ad z5 (9 * b + 5) (9 * b + 7) q2 (9 * b + 8) (-q1) (by omega) (by omega) (by omega) (by omega) ⟨by omega, by omega⟩ ⟨by omega, by omega⟩) ⟨by decide, by decide⟩ (rcv_Z (by omega)) hw rfl hl.1 (Nat.le_of_ble_eq_true rfl) d_B_addNoise_115 rfl rfl ⟨Nat.zero_le _, Nat.zero_le _⟩ (fun _ H locs _ hw => ?_)
  obtain ⟨z6, ez6⟩ : ∃ g, g = up1 z5 (9 * b + 5) (z5 (9 * b + 5) + z5 (9 * b + 7) * q2 + z5 (9 * b + 8) * (-q1)) := ⟨_, rfl⟩
  rw [← ez6] at hw
  have fr6 : ∀ j, j ≠ (9 * b + 5) → z6 j = z5 j := fun j h0 => by rw [ez6, up1_n _ h0]
  obtain ⟨w_22, ew_22⟩ : ∃ g : Int, g = u5 + u7 * q2 + u8 * (-q1) := ⟨_, rfl⟩
  have hv_23 : z6 (9 * b + 5) = w_22 := by rw [ez6, up1_s, hv_19, hv_20, hv_21, ew_22]
  refine sy_aload_n X d_B_addNoise_118 hl 0 rfl ?_
  refine b_get [] X hw 6 hb (by decide) (tt_of k122 rfl) d_B_addNoise_119 ?_
  refine sy_aload_n X d_B_addNoise_122 hl 0 rfl ?_
  refine b_get [] X hw 8 hb (by decide) (tt_of k125 rfl) d_B_addNoise_123 ?_
  refine sy_aload_n X d_B_addNoise_126 hl 1 rfl ?_
  refine q_get [] X hw 4 hi (by decide) (tt_of k78 rfl) d_B_addNoise_127 ?_
  rw [e0]
  refine sy_aload_n X d_B_addNoise_130 hl 0 rfl ?_
  refine b_get [] X hw 7 hb (by decide) (tt_of k123 rfl) d_B_addNoise_131 ?_
  refine sy_aload_n X d_B_addNoise_134 hl 1 rfl ?_
  refine q_get [] X hw 5 hi (by decide) (tt_of k80 rfl) d_B_addNoise_135 ?_
  rw [e1]
  refine sy_ineg X d_B_addNoise_138 ?_
  have hv_24 : z6 (9 * b + 6) = u6 := (fr6 (9 * b + 6) (by omega)).trans ((fr5 (9 * b + 6) (by omega)).trans ((fr4 (9 * b + 6) (by omega)).trans ((fr3 (9 * b + 6) (by omega)).trans ((fr2 (9 * b + 6) (by omega)).trans ((fr1 (9 * b + 6) (by omega)).trans (hu6))))))
  have hv_25 : z6 (9 * b + 8) = u8 := (fr6 (9 * b + 8) (by omega)).trans (hv_21)
  have hv_26 : z6 (9 * b + 7) = u7 := (fr6 (9 * b + 7) (by omega)).trans (hv_20)
  refine call_Vv (Xs := XC ad O P) (b := ad 0 (9 * b + 6)) (As := [.ref (ad 0 (9 * b + 8)), .int (iI q0), .ref (ad 0 (9 * b + 7)), .int (iI (-q1))]) (rest := []) X lk_B_66 (c_W_addSum l D cs ad z6 (9 * b + 6) (9 * b + 8) q0 (9 * b + 7) (-q1) (by omega) (by omega) (by omega) (by omega) ⟨by omega, by omega⟩ ⟨by omega, by omega⟩) ⟨by decide, by decide⟩ (rcv_Z (by omega)) hw rfl hl.1 (Nat.le_of_ble_eq_true rfl) d_B_addNoise_139 rfl rfl ⟨Nat.zero_le _, Nat.zero_le _⟩ (fun _ H locs _ hw => ?_)
  obtain ⟨z7, ez7⟩ : ∃ g, g = up1 z6 (9 * b + 6) (z6 (9 * b + 6) + z6 (9 * b + 8) * q0 + z6 (9 * b + 7) * (-q1)) := ⟨_, rfl⟩
  rw [← ez7] at hw
  have fr7 : ∀ j, j ≠ (9 * b + 6) → z7 j = z6 j := fun j h0 => by rw [ez7, up1_n _ h0]
  obtain ⟨w_27, ew_27⟩ : ∃ g : Int, g = u6 + u8 * q0 + u7 * (-q1) := ⟨_, rfl⟩
  have hv_28 : z7 (9 * b + 6) = w_27 := by rw [ez7, up1_s, hv_24, hv_25, hv_26, ew_27]
  have hv_29 : z7 (9 * b + 0) = w_5 := (fr7 (9 * b + 0) (by omega)).trans ((fr6 (9 * b + 0) (by omega)).trans ((fr5 (9 * b + 0) (by omega)).trans ((fr4 (9 * b + 0) (by omega)).trans ((fr3 (9 * b + 0) (by omega)).trans (hv_6)))))
  have hv_30 : z7 (9 * b + 1) = w_9 := (fr7 (9 * b + 1) (by omega)).trans ((fr6 (9 * b + 1) (by omega)).trans ((fr5 (9 * b + 1) (by omega)).trans ((fr4 (9 * b + 1) (by omega)).trans (hv_10))))
  have hv_31 : z7 (9 * b + 2) = w_13 := (fr7 (9 * b + 2) (by omega)).trans ((fr6 (9 * b + 2) (by omega)).trans ((fr5 (9 * b + 2) (by omega)).trans (hv_14)))
  have hv_32 : z7 (9 * b + 3) = w_17 := (fr7 (9 * b + 3) (by omega)).trans ((fr6 (9 * b + 3) (by omega)).trans (hv_18))
  have hv_33 : z7 (9 * b + 4) = u4 := (fr7 (9 * b + 4) (by omega)).trans ((fr6 (9 * b + 4) (by omega)).trans ((fr5 (9 * b + 4) (by omega)).trans (hv_16)))
  have hv_34 : z7 (9 * b + 5) = w_22 := (fr7 (9 * b + 5) (by omega)).trans (hv_23)
  have hv_35 : z7 (9 * b + 7) = u7 := (fr7 (9 * b + 7) (by omega)).trans (hv_26)
  have hv_36 : z7 (9 * b + 8) = u8 := (fr7 (9 * b + 8) (by omega)).trans (hv_25)
  have hzf : z7 = setB z b (noiseV (blB z b) q0 q1 q2) := by
    funext j
    by_cases hj : 9 * b ≤ j ∧ j < 9 * b + 9
    · obtain ⟨i9, hi9⟩ : ∃ i9, j = 9 * b + i9 ∧ i9 < 9 := ⟨j - 9 * b, by omega⟩
      obtain ⟨hij, hi9⟩ := hi9
      subst hij
      rw [setB_in hi9]
      have h9 : i9 = 0 ∨ i9 = 1 ∨ i9 = 2 ∨ i9 = 3 ∨ i9 = 4 ∨ i9 = 5 ∨ i9 = 6 ∨ i9 = 7 ∨ i9 = 8 := by omega
      rcases h9 with e9 | e9 | e9 | e9 | e9 | e9 | e9 | e9 | e9 <;> subst e9
      · rw [hv_29]; simp only [noiseV, blB, hu0, hu1, hu2, hu3, hu4, hu5, hu6, hu7, hu8, ew_27, ew_22, ew_17, ew_13, ew_9, ew_5, ew_1]
      · rw [hv_30]; simp only [noiseV, blB, hu0, hu1, hu2, hu3, hu4, hu5, hu6, hu7, hu8, ew_27, ew_22, ew_17, ew_13, ew_9, ew_5, ew_1]
      · rw [hv_31]; simp only [noiseV, blB, hu0, hu1, hu2, hu3, hu4, hu5, hu6, hu7, hu8, ew_27, ew_22, ew_17, ew_13, ew_9, ew_5, ew_1]
      · rw [hv_32]; simp only [noiseV, blB, hu0, hu1, hu2, hu3, hu4, hu5, hu6, hu7, hu8, ew_27, ew_22, ew_17, ew_13, ew_9, ew_5, ew_1]
      · rw [hv_33]; simp only [noiseV, blB, hu0, hu1, hu2, hu3, hu4, hu5, hu6, hu7, hu8, ew_27, ew_22, ew_17, ew_13, ew_9, ew_5, ew_1]
      · rw [hv_34]; simp only [noiseV, blB, hu0, hu1, hu2, hu3, hu4, hu5, hu6, hu7, hu8, ew_27, ew_22, ew_17, ew_13, ew_9, ew_5, ew_1]
      · rw [hv_28]; simp only [noiseV, blB, hu0, hu1, hu2, hu3, hu4, hu5, hu6, hu7, hu8, ew_27, ew_22, ew_17, ew_13, ew_9, ew_5, ew_1]
      · rw [hv_35]; simp only [noiseV, blB, hu0, hu1, hu2, hu3, hu4, hu5, hu6, hu7, hu8, ew_27, ew_22, ew_17, ew_13, ew_9, ew_5, ew_1]
      · rw [hv_36]; simp only [noiseV, blB, hu0, hu1, hu2, hu3, hu4, hu5, hu6, hu7, hu8, ew_27, ew_22, ew_17, ew_13, ew_9, ew_5, ew_1]
    · rw [setB_out hj]; exact (fr7 j (by omega)).trans ((fr6 j (by omega)).trans ((fr5 j (by omega)).trans ((fr4 j (by omega)).trans ((fr3 j (by omega)).trans ((fr2 j (by omega)).trans ((fr1 j (by omega)).trans (rfl)))))))
  rw [hzf] at hw
  exact kr () _ _ _ _ d_B_addNoise_142 hw trivial
set_option maxRecDepth 100000 in
set_option maxHeartbeats 4000000 in
theorem c_B_turn (l : Launch) (D : va_G) (cs : Nat → ClassId) (ad : Nat → Nat → Nat) (O P : Nat → Nat → Int) (z : Nat → Int) (b a : Nat) (g0 g1 g2 g3 : Int) (hb : b < 13) (ha : a < 13) (hab : a ≠ b) (k0 : -3 ≤ g0 ∧ g0 ≤ 3) (k1 : -3 ≤ g1 ∧ g1 ≤ 3) (k2 : -3 ≤ g2 ∧ g2 ≤ 3) (k3 : -3 ≤ g3 ∧ g3 ≤ 3) : Ct (S := Unit) l D (tyL cs) y_B_turn b_B_turn 6 none (rm 3) [.ref (ad 2 b), .ref (ad 2 a), .int (iI g0), .int (iI g1), .int (iI g2), .int (iI g3)] (wO ad cs O P z) (fun _ => True) (fun _ => none) (fun _ => wO ad cs O P (setB z b (turnV (blB z b) (blB z a) g0 g1 g2 g3))) := by
  refine Ct.introV (by decide) (Nat.le_of_ble_eq_true rfl) (fun _ => rfl) ?_
  intro p e s m below meth c A args Q H locs X hnm hw kr ls hl
  have X : CX D (tyL cs) R_B b_B_turn 6 p m c s args := X
  have hl : lv_has ls 6 [(0, .ref (ad 2 b)), (1, .ref (ad 2 a)), (2, .int (iI g0)), (3, .int (iI g1)), (4, .int (iI g2)), (5, .int (iI g3))] := hl
  obtain ⟨u0, hu0⟩ : ∃ g, z (9 * b + 0) = g := ⟨_, rfl⟩
  obtain ⟨u1, hu1⟩ : ∃ g, z (9 * b + 1) = g := ⟨_, rfl⟩
  obtain ⟨u2, hu2⟩ : ∃ g, z (9 * b + 2) = g := ⟨_, rfl⟩
  obtain ⟨u3, hu3⟩ : ∃ g, z (9 * b + 3) = g := ⟨_, rfl⟩
  obtain ⟨u4, hu4⟩ : ∃ g, z (9 * b + 4) = g := ⟨_, rfl⟩
  obtain ⟨u5, hu5⟩ : ∃ g, z (9 * b + 5) = g := ⟨_, rfl⟩
  obtain ⟨u6, hu6⟩ : ∃ g, z (9 * b + 6) = g := ⟨_, rfl⟩
  obtain ⟨u7, hu7⟩ : ∃ g, z (9 * b + 7) = g := ⟨_, rfl⟩
  obtain ⟨u8, hu8⟩ : ∃ g, z (9 * b + 8) = g := ⟨_, rfl⟩
  obtain ⟨v0, hv0⟩ : ∃ g, z (9 * a + 0) = g := ⟨_, rfl⟩
  obtain ⟨v1, hv1⟩ : ∃ g, z (9 * a + 1) = g := ⟨_, rfl⟩
  obtain ⟨v2, hv2⟩ : ∃ g, z (9 * a + 2) = g := ⟨_, rfl⟩
  obtain ⟨v3, hv3⟩ : ∃ g, z (9 * a + 3) = g := ⟨_, rfl⟩
  obtain ⟨v4, hv4⟩ : ∃ g, z (9 * a + 4) = g := ⟨_, rfl⟩
  obtain ⟨v5, hv5⟩ : ∃ g, z (9 * a + 5) = g := ⟨_, rfl⟩
  obtain ⟨v6, hv6⟩ : ∃ g, z (9 * a + 6) = g := ⟨_, rfl⟩
  obtain ⟨v7, hv7⟩ : ∃ g, z (9 * a + 7) = g := ⟨_, rfl⟩
  obtain ⟨v8, hv8⟩ : ∃ g, z (9 * a + 8) = g := ⟨_, rfl⟩
  have y1 := mul_rng k0 k0
  have y2 := mul_rng k2 k2
  have y3 := mul_rng k0 k1
  have y4 := mul_rng k0 k3
  have y5 := mul_rng k1 k2
  have y6 := mul_rng k2 k3
  have y7 := mul_rng k1 k1
  have y8 := mul_rng k3 k3
  have y9 := mul_rng (x := 2 * g0) (a := 6) (by omega) k2
  have y10 := mul_rng (x := 2 * g1) (a := 6) (by omega) k3
  refine sy_aload_n X d_B_turn_0 hl 0 rfl ?_
  refine b_get [] X hw 1 hb (by decide) (tt_of k116 rfl) d_B_turn_1 ?_
  refine sy_aload_n X d_B_turn_4 hl 1 rfl ?_
  refine b_get [] X hw 1 ha (by decide) (tt_of k116 rfl) d_B_turn_5 ?_
  refine sy_iload_n X d_B_turn_8 hl 2 rfl ?_
  refine sy_iload_n X d_B_turn_9 hl 2 rfl ?_
  refine sy_imul X d_B_turn_10 ?_
  refine sy_aload_n X d_B_turn_11 hl 1 rfl ?_
  refine b_get [] X hw 2 ha (by decide) (tt_of k117 rfl) d_B_turn_12 ?_
  refine sy_iconst X d_B_turn_15 ?_
  refine sy_iload_n X d_B_turn_16 hl 2 rfl ?_
  refine sy_imul X d_B_turn_17 ?_
  refine sy_iload X d_B_turn_18 hl 4 rfl ?_
  refine sy_imul X d_B_turn_20 ?_
  refine sy_aload_n X d_B_turn_21 hl 1 rfl ?_
  refine b_get [] X hw 3 ha (by decide) (tt_of k118 rfl) d_B_turn_22 ?_
  refine sy_iload X d_B_turn_25 hl 4 rfl ?_
  refine sy_iload X d_B_turn_27 hl 4 rfl ?_
  refine sy_imul X d_B_turn_29 ?_
  refine call_Vv (Xs := XC ad O P) (b := ad 0 (9 * b + 1)) (As := [.ref (ad 0 (9 * a + 1)), .int (iI (g0 * g0)), .ref (ad 0 (9 * a + 2)), .int (iI ((2 * g0) * g2)), .ref (ad 0 (9 * a + 3)), .int (iI (g2 * g2))]) (rest := []) X lk_B_112 (c_W_setSum l D cs ad z (9 * b + 1) (9 * a + 1) (g0 * g0) (9 * a + 2) ((2 * g0) * g2) (9 * a + 3) (g2 * g2) (by omega) (by omega) (by omega) (by omega) (by omega) (by omega) ⟨by omega, by omega⟩ ⟨by omega, by omega⟩ ⟨by omega, by omega⟩) ⟨by decide, by decide⟩ (rcv_Z (by omega)) hw rfl hl.1 (Nat.le_of_ble_eq_true rfl) d_B_turn_30 rfl rfl ⟨Nat.zero_le _, Nat.zero_le _⟩ (fun _ H locs _ hw => ?_)
  obtain ⟨z1, ez1⟩ : ∃ g, g = up1 z (9 * b + 1) (z (9 * a + 1) * (g0 * g0) + z (9 * a + 2) * ((2 * g0) * g2) + z (9 * a + 3) * (g2 * g2)) := ⟨_, rfl⟩
  rw [← ez1] at hw
  have fr1 : ∀ j, j ≠ (9 * b + 1) → z1 j = z j := fun j h0 => by rw [ez1, up1_n _ h0]
  obtain ⟨w_1, ew_1⟩ : ∃ g : Int, g = v1 * (g0 * g0) + v2 * ((2 * g0) * g2) + v3 * (g2 * g2) := ⟨_, rfl⟩
  have hv_2 : z1 (9 * b + 1) = w_1 := by rw [ez1, up1_s, hv1, hv2, hv3, ew_1]
  refine sy_aload_n X d_B_turn_33 hl 0 rfl ?_
  refine b_get [] X hw 2 hb (by decide) (tt_of k117 rfl) d_B_turn_34 ?_
  refine sy_aload_n X d_B_turn_37 hl 1 rfl ?_
  refine b_get [] X hw 1 ha (by decide) (tt_of k116 rfl) d_B_turn_38 ?_
  refine sy_iload_n X d_B_turn_41 hl 2 rfl ?_
  refine sy_iload_n X d_B_turn_42 hl 3 rfl ?_
  refine sy_imul X d_B_turn_43 ?_
  refine sy_aload_n X d_B_turn_44 hl 1 rfl ?_
  refine b_get [] X hw 2 ha (by decide) (tt_of k117 rfl) d_B_turn_45 ?_
  refine sy_iload_n X d_B_turn_48 hl 2 rfl ?_
  refine sy_iload X d_B_turn_49 hl 5 rfl ?_
  refine sy_imul X d_B_turn_51 ?_
  refine sy_iload_n X d_B_turn_52 hl 3 rfl ?_
  refine sy_iload X d_B_turn_53 hl 4 rfl ?_
  refine sy_imul X d_B_turn_55 ?_
  refine sy_iadd X d_B_turn_56 ?_
  refine sy_aload_n X d_B_turn_57 hl 1 rfl ?_
  refine b_get [] X hw 3 ha (by decide) (tt_of k118 rfl) d_B_turn_58 ?_
  refine sy_iload X d_B_turn_61 hl 4 rfl ?_
  refine sy_iload X d_B_turn_63 hl 5 rfl ?_
  refine sy_imul X d_B_turn_65 ?_
  have hv_3 : z1 (9 * a + 1) = v1 := (fr1 (9 * a + 1) (by omega)).trans (hv1)
  have hv_4 : z1 (9 * a + 2) = v2 := (fr1 (9 * a + 2) (by omega)).trans (hv2)
  have hv_5 : z1 (9 * a + 3) = v3 := (fr1 (9 * a + 3) (by omega)).trans (hv3)
  refine call_Vv (Xs := XC ad O P) (b := ad 0 (9 * b + 2)) (As := [.ref (ad 0 (9 * a + 1)), .int (iI (g0 * g1)), .ref (ad 0 (9 * a + 2)), .int (iI ((g0 * g3) + (g1 * g2))), .ref (ad 0 (9 * a + 3)), .int (iI (g2 * g3))]) (rest := []) X lk_B_112 (c_W_setSum l D cs ad z1 (9 * b + 2) (9 * a + 1) (g0 * g1) (9 * a + 2) ((g0 * g3) + (g1 * g2)) (9 * a + 3) (g2 * g3) (by omega) (by omega) (by omega) (by omega) (by omega) (by omega) ⟨by omega, by omega⟩ ⟨by omega, by omega⟩ ⟨by omega, by omega⟩) ⟨by decide, by decide⟩ (rcv_Z (by omega)) hw rfl hl.1 (Nat.le_of_ble_eq_true rfl) d_B_turn_66 rfl rfl ⟨Nat.zero_le _, Nat.zero_le _⟩ (fun _ H locs _ hw => ?_)
  obtain ⟨z2, ez2⟩ : ∃ g, g = up1 z1 (9 * b + 2) (z1 (9 * a + 1) * (g0 * g1) + z1 (9 * a + 2) * ((g0 * g3) + (g1 * g2)) + z1 (9 * a + 3) * (g2 * g3)) := ⟨_, rfl⟩
  rw [← ez2] at hw
  have fr2 : ∀ j, j ≠ (9 * b + 2) → z2 j = z1 j := fun j h0 => by rw [ez2, up1_n _ h0]
  obtain ⟨w_6, ew_6⟩ : ∃ g : Int, g = v1 * (g0 * g1) + v2 * ((g0 * g3) + (g1 * g2)) + v3 * (g2 * g3) := ⟨_, rfl⟩
  have hv_7 : z2 (9 * b + 2) = w_6 := by rw [ez2, up1_s, hv_3, hv_4, hv_5, ew_6]
  refine sy_aload_n X d_B_turn_69 hl 0 rfl ?_
  refine b_get [] X hw 3 hb (by decide) (tt_of k118 rfl) d_B_turn_70 ?_
  refine sy_aload_n X d_B_turn_73 hl 1 rfl ?_
  refine b_get [] X hw 1 ha (by decide) (tt_of k116 rfl) d_B_turn_74 ?_
  refine sy_iload_n X d_B_turn_77 hl 3 rfl ?_
  refine sy_iload_n X d_B_turn_78 hl 3 rfl ?_
  refine sy_imul X d_B_turn_79 ?_
  refine sy_aload_n X d_B_turn_80 hl 1 rfl ?_
  refine b_get [] X hw 2 ha (by decide) (tt_of k117 rfl) d_B_turn_81 ?_
  refine sy_iconst X d_B_turn_84 ?_
  refine sy_iload_n X d_B_turn_85 hl 3 rfl ?_
  refine sy_imul X d_B_turn_86 ?_
  refine sy_iload X d_B_turn_87 hl 5 rfl ?_
  refine sy_imul X d_B_turn_89 ?_
  refine sy_aload_n X d_B_turn_90 hl 1 rfl ?_
  refine b_get [] X hw 3 ha (by decide) (tt_of k118 rfl) d_B_turn_91 ?_
  refine sy_iload X d_B_turn_94 hl 5 rfl ?_
  refine sy_iload X d_B_turn_96 hl 5 rfl ?_
  refine sy_imul X d_B_turn_98 ?_
  have hv_8 : z2 (9 * a + 1) = v1 := (fr2 (9 * a + 1) (by omega)).trans (hv_3)
  have hv_9 : z2 (9 * a + 2) = v2 := (fr2 (9 * a + 2) (by omega)).trans (hv_4)
  have hv_10 : z2 (9 * a + 3) = v3 := (fr2 (9 * a + 3) (by omega)).trans (hv_5)
  refine call_Vv (Xs := XC ad O P) (b := ad 0 (9 * b + 3)) (As := [.ref (ad 0 (9 * a + 1)), .int (iI (g1 * g1)), .ref (ad 0 (9 * a + 2)), .int (iI ((2 * g1) * g3)), .ref (ad 0 (9 * a + 3)), .int (iI (g3 * g3))]) (rest := []) X lk_B_112 (c_W_setSum l D cs ad z2 (9 * b + 3) (9 * a + 1) (g1 * g1) (9 * a + 2) ((2 * g1) * g3) (9 * a + 3) (g3 * g3) (by omega) (by omega) (by omega) (by omega) (by omega) (by omega) ⟨by omega, by omega⟩ ⟨by omega, by omega⟩ ⟨by omega, by omega⟩) ⟨by decide, by decide⟩ (rcv_Z (by omega)) hw rfl hl.1 (Nat.le_of_ble_eq_true rfl) d_B_turn_99 rfl rfl ⟨Nat.zero_le _, Nat.zero_le _⟩ (fun _ H locs _ hw => ?_)
  obtain ⟨z3, ez3⟩ : ∃ g, g = up1 z2 (9 * b + 3) (z2 (9 * a + 1) * (g1 * g1) + z2 (9 * a + 2) * ((2 * g1) * g3) + z2 (9 * a + 3) * (g3 * g3)) := ⟨_, rfl⟩
  rw [← ez3] at hw
  have fr3 : ∀ j, j ≠ (9 * b + 3) → z3 j = z2 j := fun j h0 => by rw [ez3, up1_n _ h0]
  obtain ⟨w_11, ew_11⟩ : ∃ g : Int, g = v1 * (g1 * g1) + v2 * ((2 * g1) * g3) + v3 * (g3 * g3) := ⟨_, rfl⟩
  have hv_12 : z3 (9 * b + 3) = w_11 := by rw [ez3, up1_s, hv_8, hv_9, hv_10, ew_11]
  refine sy_aload_n X d_B_turn_102 hl 0 rfl ?_
  refine b_get [] X hw 5 hb (by decide) (tt_of k121 rfl) d_B_turn_103 ?_
  refine sy_aload_n X d_B_turn_106 hl 1 rfl ?_
  refine b_get [] X hw 5 ha (by decide) (tt_of k121 rfl) d_B_turn_107 ?_
  refine sy_iload_n X d_B_turn_110 hl 2 rfl ?_
  have hv_13 : z3 (9 * a + 5) = v5 := (fr3 (9 * a + 5) (by omega)).trans ((fr2 (9 * a + 5) (by omega)).trans ((fr1 (9 * a + 5) (by omega)).trans (hv5)))
  refine call_Vv (Xs := XC ad O P) (b := ad 0 (9 * b + 5)) (As := [.ref (ad 0 (9 * a + 5)), .int (iI g0)]) (rest := []) X lk_B_116 (c_W_setTimes l D cs ad z3 (9 * b + 5) (9 * a + 5) g0 (by omega) (by omega) ⟨by omega, by omega⟩) ⟨by decide, by decide⟩ (rcv_Z (by omega)) hw rfl hl.1 (Nat.le_of_ble_eq_true rfl) d_B_turn_111 rfl rfl ⟨Nat.zero_le _, Nat.zero_le _⟩ (fun _ H locs _ hw => ?_)
  obtain ⟨z4, ez4⟩ : ∃ g, g = up1 z3 (9 * b + 5) (z3 (9 * a + 5) * g0) := ⟨_, rfl⟩
  rw [← ez4] at hw
  have fr4 : ∀ j, j ≠ (9 * b + 5) → z4 j = z3 j := fun j h0 => by rw [ez4, up1_n _ h0]
  obtain ⟨w_14, ew_14⟩ : ∃ g : Int, g = v5 * g0 := ⟨_, rfl⟩
  have hv_15 : z4 (9 * b + 5) = w_14 := by rw [ez4, up1_s, hv_13, ew_14]
  refine sy_aload_n X d_B_turn_114 hl 0 rfl ?_
  refine b_get [] X hw 5 hb (by decide) (tt_of k121 rfl) d_B_turn_115 ?_
  refine sy_aload_n X d_B_turn_118 hl 1 rfl ?_
  refine b_get [] X hw 6 ha (by decide) (tt_of k122 rfl) d_B_turn_119 ?_
  refine sy_iload X d_B_turn_122 hl 4 rfl ?_
  have hv_16 : z4 (9 * a + 6) = v6 := (fr4 (9 * a + 6) (by omega)).trans ((fr3 (9 * a + 6) (by omega)).trans ((fr2 (9 * a + 6) (by omega)).trans ((fr1 (9 * a + 6) (by omega)).trans (hv6))))
  refine call_Vv (Xs := XC ad O P) (b := ad 0 (9 * b + 5)) (As := [.ref (ad 0 (9 * a + 6)), .int (iI g2)]) (rest := []) X lk_B_70 (c_W_addTimes l D cs ad z4 (9 * b + 5) (9 * a + 6) g2 (by omega) (by omega) ⟨by omega, by omega⟩) ⟨by decide, by decide⟩ (rcv_Z (by omega)) hw rfl hl.1 (Nat.le_of_ble_eq_true rfl) d_B_turn_124 rfl rfl ⟨Nat.zero_le _, Nat.zero_le _⟩ (fun _ H locs _ hw => ?_)
  obtain ⟨z5, ez5⟩ : ∃ g, g = up1 z4 (9 * b + 5) (z4 (9 * b + 5) + z4 (9 * a + 6) * g2) := ⟨_, rfl⟩
  rw [← ez5] at hw
  have fr5 : ∀ j, j ≠ (9 * b + 5) → z5 j = z4 j := fun j h0 => by rw [ez5, up1_n _ h0]
  obtain ⟨w_17, ew_17⟩ : ∃ g : Int, g = w_14 + v6 * g2 := ⟨_, rfl⟩
  have hv_18 : z5 (9 * b + 5) = w_17 := by rw [ez5, up1_s, hv_15, hv_16, ew_17]
  refine sy_aload_n X d_B_turn_127 hl 0 rfl ?_
  refine b_get [] X hw 6 hb (by decide) (tt_of k122 rfl) d_B_turn_128 ?_
  refine sy_aload_n X d_B_turn_131 hl 1 rfl ?_
  refine b_get [] X hw 5 ha (by decide) (tt_of k121 rfl) d_B_turn_132 ?_
  refine sy_iload_n X d_B_turn_135 hl 3 rfl ?_
  have hv_19 : z5 (9 * a + 5) = v5 := (fr5 (9 * a + 5) (by omega)).trans ((fr4 (9 * a + 5) (by omega)).trans (hv_13))
  refine call_Vv (Xs := XC ad O P) (b := ad 0 (9 * b + 6)) (As := [.ref (ad 0 (9 * a + 5)), .int (iI g1)]) (rest := []) X lk_B_116 (c_W_setTimes l D cs ad z5 (9 * b + 6) (9 * a + 5) g1 (by omega) (by omega) ⟨by omega, by omega⟩) ⟨by decide, by decide⟩ (rcv_Z (by omega)) hw rfl hl.1 (Nat.le_of_ble_eq_true rfl) d_B_turn_136 rfl rfl ⟨Nat.zero_le _, Nat.zero_le _⟩ (fun _ H locs _ hw => ?_)
  obtain ⟨z6, ez6⟩ : ∃ g, g = up1 z5 (9 * b + 6) (z5 (9 * a + 5) * g1) := ⟨_, rfl⟩
  rw [← ez6] at hw
  have fr6 : ∀ j, j ≠ (9 * b + 6) → z6 j = z5 j := fun j h0 => by rw [ez6, up1_n _ h0]
  obtain ⟨w_20, ew_20⟩ : ∃ g : Int, g = v5 * g1 := ⟨_, rfl⟩
  have hv_21 : z6 (9 * b + 6) = w_20 := by rw [ez6, up1_s, hv_19, ew_20]
  refine sy_aload_n X d_B_turn_139 hl 0 rfl ?_
  refine b_get [] X hw 6 hb (by decide) (tt_of k122 rfl) d_B_turn_140 ?_
  refine sy_aload_n X d_B_turn_143 hl 1 rfl ?_
  refine b_get [] X hw 6 ha (by decide) (tt_of k122 rfl) d_B_turn_144 ?_
  refine sy_iload X d_B_turn_147 hl 5 rfl ?_
  have hv_22 : z6 (9 * a + 6) = v6 := (fr6 (9 * a + 6) (by omega)).trans ((fr5 (9 * a + 6) (by omega)).trans (hv_16))
  refine call_Vv (Xs := XC ad O P) (b := ad 0 (9 * b + 6)) (As := [.ref (ad 0 (9 * a + 6)), .int (iI g3)]) (rest := []) X lk_B_70 (c_W_addTimes l D cs ad z6 (9 * b + 6) (9 * a + 6) g3 (by omega) (by omega) ⟨by omega, by omega⟩) ⟨by decide, by decide⟩ (rcv_Z (by omega)) hw rfl hl.1 (Nat.le_of_ble_eq_true rfl) d_B_turn_149 rfl rfl ⟨Nat.zero_le _, Nat.zero_le _⟩ (fun _ H locs _ hw => ?_)
  obtain ⟨z7, ez7⟩ : ∃ g, g = up1 z6 (9 * b + 6) (z6 (9 * b + 6) + z6 (9 * a + 6) * g3) := ⟨_, rfl⟩
  rw [← ez7] at hw
  have fr7 : ∀ j, j ≠ (9 * b + 6) → z7 j = z6 j := fun j h0 => by rw [ez7, up1_n _ h0]
  obtain ⟨w_23, ew_23⟩ : ∃ g : Int, g = w_20 + v6 * g3 := ⟨_, rfl⟩
  have hv_24 : z7 (9 * b + 6) = w_23 := by rw [ez7, up1_s, hv_21, hv_22, ew_23]
  refine sy_aload_n X d_B_turn_152 hl 0 rfl ?_
  refine b_get [] X hw 7 hb (by decide) (tt_of k123 rfl) d_B_turn_153 ?_
  refine sy_aload_n X d_B_turn_156 hl 1 rfl ?_
  refine b_get [] X hw 7 ha (by decide) (tt_of k123 rfl) d_B_turn_157 ?_
  refine sy_iload X d_B_turn_160 hl 5 rfl ?_
  have hv_25 : z7 (9 * a + 7) = v7 := (fr7 (9 * a + 7) (by omega)).trans ((fr6 (9 * a + 7) (by omega)).trans ((fr5 (9 * a + 7) (by omega)).trans ((fr4 (9 * a + 7) (by omega)).trans ((fr3 (9 * a + 7) (by omega)).trans ((fr2 (9 * a + 7) (by omega)).trans ((fr1 (9 * a + 7) (by omega)).trans (hv7)))))))
  refine call_Vv (Xs := XC ad O P) (b := ad 0 (9 * b + 7)) (As := [.ref (ad 0 (9 * a + 7)), .int (iI g3)]) (rest := []) X lk_B_116 (c_W_setTimes l D cs ad z7 (9 * b + 7) (9 * a + 7) g3 (by omega) (by omega) ⟨by omega, by omega⟩) ⟨by decide, by decide⟩ (rcv_Z (by omega)) hw rfl hl.1 (Nat.le_of_ble_eq_true rfl) d_B_turn_162 rfl rfl ⟨Nat.zero_le _, Nat.zero_le _⟩ (fun _ H locs _ hw => ?_)
  obtain ⟨z8, ez8⟩ : ∃ g, g = up1 z7 (9 * b + 7) (z7 (9 * a + 7) * g3) := ⟨_, rfl⟩
  rw [← ez8] at hw
  have fr8 : ∀ j, j ≠ (9 * b + 7) → z8 j = z7 j := fun j h0 => by rw [ez8, up1_n _ h0]
  obtain ⟨w_26, ew_26⟩ : ∃ g : Int, g = v7 * g3 := ⟨_, rfl⟩
  have hv_27 : z8 (9 * b + 7) = w_26 := by rw [ez8, up1_s, hv_25, ew_26]
  refine sy_aload_n X d_B_turn_165 hl 0 rfl ?_
  refine b_get [] X hw 7 hb (by decide) (tt_of k123 rfl) d_B_turn_166 ?_
  refine sy_aload_n X d_B_turn_169 hl 1 rfl ?_
  refine b_get [] X hw 8 ha (by decide) (tt_of k125 rfl) d_B_turn_170 ?_
  refine sy_iload_n X d_B_turn_173 hl 3 rfl ?_
  refine sy_ineg X d_B_turn_174 ?_
  have hv_28 : z8 (9 * a + 8) = v8 := (fr8 (9 * a + 8) (by omega)).trans ((fr7 (9 * a + 8) (by omega)).trans ((fr6 (9 * a + 8) (by omega)).trans ((fr5 (9 * a + 8) (by omega)).trans ((fr4 (9 * a + 8) (by omega)).trans ((fr3 (9 * a + 8) (by omega)).trans ((fr2 (9 * a + 8) (by omega)).trans ((fr1 (9 * a + 8) (by omega)).trans (hv8))))))))
  refine call_Vv (Xs := XC ad O P) (b := ad 0 (9 * b + 7)) (As := [.ref (ad 0 (9 * a + 8)), .int (iI (-g1))]) (rest := []) X lk_B_70 (c_W_addTimes l D cs ad z8 (9 * b + 7) (9 * a + 8) (-g1) (by omega) (by omega) ⟨by omega, by omega⟩) ⟨by decide, by decide⟩ (rcv_Z (by omega)) hw rfl hl.1 (Nat.le_of_ble_eq_true rfl) d_B_turn_175 rfl rfl ⟨Nat.zero_le _, Nat.zero_le _⟩ (fun _ H locs _ hw => ?_)
  obtain ⟨z9, ez9⟩ : ∃ g, g = up1 z8 (9 * b + 7) (z8 (9 * b + 7) + z8 (9 * a + 8) * (-g1)) := ⟨_, rfl⟩
  rw [← ez9] at hw
  have fr9 : ∀ j, j ≠ (9 * b + 7) → z9 j = z8 j := fun j h0 => by rw [ez9, up1_n _ h0]
  obtain ⟨w_29, ew_29⟩ : ∃ g : Int, g = w_26 + v8 * (-g1) := ⟨_, rfl⟩
  have hv_30 : z9 (9 * b + 7) = w_29 := by rw [ez9, up1_s, hv_27, hv_28, ew_29]
  refine sy_aload_n X d_B_turn_178 hl 0 rfl ?_
  refine b_get [] X hw 8 hb (by decide) (tt_of k125 rfl) d_B_turn_179 ?_
  refine sy_aload_n X d_B_turn_182 hl 1 rfl ?_
  refine b_get [] X hw 8 ha (by decide) (tt_of k125 rfl) d_B_turn_183 ?_
  refine sy_iload_n X d_B_turn_186 hl 2 rfl ?_
  have hv_31 : z9 (9 * a + 8) = v8 := (fr9 (9 * a + 8) (by omega)).trans (hv_28)
  refine call_Vv (Xs := XC ad O P) (b := ad 0 (9 * b + 8)) (As := [.ref (ad 0 (9 * a + 8)), .int (iI g0)]) (rest := []) X lk_B_116 (c_W_setTimes l D cs ad z9 (9 * b + 8) (9 * a + 8) g0 (by omega) (by omega) ⟨by omega, by omega⟩) ⟨by decide, by decide⟩ (rcv_Z (by omega)) hw rfl hl.1 (Nat.le_of_ble_eq_true rfl) d_B_turn_187 rfl rfl ⟨Nat.zero_le _, Nat.zero_le _⟩ (fun _ H locs _ hw => ?_)
  obtain ⟨z10, ez10⟩ : ∃ g, g = up1 z9 (9 * b + 8) (z9 (9 * a + 8) * g0) := ⟨_, rfl⟩
  rw [← ez10] at hw
  have fr10 : ∀ j, j ≠ (9 * b + 8) → z10 j = z9 j := fun j h0 => by rw [ez10, up1_n _ h0]
  obtain ⟨w_32, ew_32⟩ : ∃ g : Int, g = v8 * g0 := ⟨_, rfl⟩
  have hv_33 : z10 (9 * b + 8) = w_32 := by rw [ez10, up1_s, hv_31, ew_32]
  refine sy_aload_n X d_B_turn_190 hl 0 rfl ?_
  refine b_get [] X hw 8 hb (by decide) (tt_of k125 rfl) d_B_turn_191 ?_
  refine sy_aload_n X d_B_turn_194 hl 1 rfl ?_
  refine b_get [] X hw 7 ha (by decide) (tt_of k123 rfl) d_B_turn_195 ?_
  refine sy_iload X d_B_turn_198 hl 4 rfl ?_
  refine sy_ineg X d_B_turn_200 ?_
  have hv_34 : z10 (9 * a + 7) = v7 := (fr10 (9 * a + 7) (by omega)).trans ((fr9 (9 * a + 7) (by omega)).trans ((fr8 (9 * a + 7) (by omega)).trans (hv_25)))
  refine call_Vv (Xs := XC ad O P) (b := ad 0 (9 * b + 8)) (As := [.ref (ad 0 (9 * a + 7)), .int (iI (-g2))]) (rest := []) X lk_B_70 (c_W_addTimes l D cs ad z10 (9 * b + 8) (9 * a + 7) (-g2) (by omega) (by omega) ⟨by omega, by omega⟩) ⟨by decide, by decide⟩ (rcv_Z (by omega)) hw rfl hl.1 (Nat.le_of_ble_eq_true rfl) d_B_turn_201 rfl rfl ⟨Nat.zero_le _, Nat.zero_le _⟩ (fun _ H locs _ hw => ?_)
  obtain ⟨z11, ez11⟩ : ∃ g, g = up1 z10 (9 * b + 8) (z10 (9 * b + 8) + z10 (9 * a + 7) * (-g2)) := ⟨_, rfl⟩
  rw [← ez11] at hw
  have fr11 : ∀ j, j ≠ (9 * b + 8) → z11 j = z10 j := fun j h0 => by rw [ez11, up1_n _ h0]
  obtain ⟨w_35, ew_35⟩ : ∃ g : Int, g = w_32 + v7 * (-g2) := ⟨_, rfl⟩
  have hv_36 : z11 (9 * b + 8) = w_35 := by rw [ez11, up1_s, hv_33, hv_34, ew_35]
  have hv_37 : z11 (9 * b + 0) = u0 := (fr11 (9 * b + 0) (by omega)).trans ((fr10 (9 * b + 0) (by omega)).trans ((fr9 (9 * b + 0) (by omega)).trans ((fr8 (9 * b + 0) (by omega)).trans ((fr7 (9 * b + 0) (by omega)).trans ((fr6 (9 * b + 0) (by omega)).trans ((fr5 (9 * b + 0) (by omega)).trans ((fr4 (9 * b + 0) (by omega)).trans ((fr3 (9 * b + 0) (by omega)).trans ((fr2 (9 * b + 0) (by omega)).trans ((fr1 (9 * b + 0) (by omega)).trans (hu0)))))))))))
  have hv_38 : z11 (9 * b + 1) = w_1 := (fr11 (9 * b + 1) (by omega)).trans ((fr10 (9 * b + 1) (by omega)).trans ((fr9 (9 * b + 1) (by omega)).trans ((fr8 (9 * b + 1) (by omega)).trans ((fr7 (9 * b + 1) (by omega)).trans ((fr6 (9 * b + 1) (by omega)).trans ((fr5 (9 * b + 1) (by omega)).trans ((fr4 (9 * b + 1) (by omega)).trans ((fr3 (9 * b + 1) (by omega)).trans ((fr2 (9 * b + 1) (by omega)).trans (hv_2))))))))))
  have hv_39 : z11 (9 * b + 2) = w_6 := (fr11 (9 * b + 2) (by omega)).trans ((fr10 (9 * b + 2) (by omega)).trans ((fr9 (9 * b + 2) (by omega)).trans ((fr8 (9 * b + 2) (by omega)).trans ((fr7 (9 * b + 2) (by omega)).trans ((fr6 (9 * b + 2) (by omega)).trans ((fr5 (9 * b + 2) (by omega)).trans ((fr4 (9 * b + 2) (by omega)).trans ((fr3 (9 * b + 2) (by omega)).trans (hv_7)))))))))
  have hv_40 : z11 (9 * b + 3) = w_11 := (fr11 (9 * b + 3) (by omega)).trans ((fr10 (9 * b + 3) (by omega)).trans ((fr9 (9 * b + 3) (by omega)).trans ((fr8 (9 * b + 3) (by omega)).trans ((fr7 (9 * b + 3) (by omega)).trans ((fr6 (9 * b + 3) (by omega)).trans ((fr5 (9 * b + 3) (by omega)).trans ((fr4 (9 * b + 3) (by omega)).trans (hv_12))))))))
  have hv_41 : z11 (9 * b + 4) = u4 := (fr11 (9 * b + 4) (by omega)).trans ((fr10 (9 * b + 4) (by omega)).trans ((fr9 (9 * b + 4) (by omega)).trans ((fr8 (9 * b + 4) (by omega)).trans ((fr7 (9 * b + 4) (by omega)).trans ((fr6 (9 * b + 4) (by omega)).trans ((fr5 (9 * b + 4) (by omega)).trans ((fr4 (9 * b + 4) (by omega)).trans ((fr3 (9 * b + 4) (by omega)).trans ((fr2 (9 * b + 4) (by omega)).trans ((fr1 (9 * b + 4) (by omega)).trans (hu4)))))))))))
  have hv_42 : z11 (9 * b + 5) = w_17 := (fr11 (9 * b + 5) (by omega)).trans ((fr10 (9 * b + 5) (by omega)).trans ((fr9 (9 * b + 5) (by omega)).trans ((fr8 (9 * b + 5) (by omega)).trans ((fr7 (9 * b + 5) (by omega)).trans ((fr6 (9 * b + 5) (by omega)).trans (hv_18))))))
  have hv_43 : z11 (9 * b + 6) = w_23 := (fr11 (9 * b + 6) (by omega)).trans ((fr10 (9 * b + 6) (by omega)).trans ((fr9 (9 * b + 6) (by omega)).trans ((fr8 (9 * b + 6) (by omega)).trans (hv_24))))
  have hv_44 : z11 (9 * b + 7) = w_29 := (fr11 (9 * b + 7) (by omega)).trans ((fr10 (9 * b + 7) (by omega)).trans (hv_30))
  have hzf : z11 = setB z b (turnV (blB z b) (blB z a) g0 g1 g2 g3) := by
    funext j
    by_cases hj : 9 * b ≤ j ∧ j < 9 * b + 9
    · obtain ⟨i9, hi9⟩ : ∃ i9, j = 9 * b + i9 ∧ i9 < 9 := ⟨j - 9 * b, by omega⟩
      obtain ⟨hij, hi9⟩ := hi9
      subst hij
      rw [setB_in hi9]
      have h9 : i9 = 0 ∨ i9 = 1 ∨ i9 = 2 ∨ i9 = 3 ∨ i9 = 4 ∨ i9 = 5 ∨ i9 = 6 ∨ i9 = 7 ∨ i9 = 8 := by omega
      rcases h9 with e9 | e9 | e9 | e9 | e9 | e9 | e9 | e9 | e9 <;> subst e9
      · rw [hv_37]; simp only [turnV, blB, hu0, hu1, hu2, hu3, hu4, hu5, hu6, hu7, hu8, hv0, hv1, hv2, hv3, hv4, hv5, hv6, hv7, hv8, ew_35, ew_32, ew_29, ew_26, ew_23, ew_20, ew_17, ew_14, ew_11, ew_6, ew_1]
      · rw [hv_38]; simp only [turnV, blB, hu0, hu1, hu2, hu3, hu4, hu5, hu6, hu7, hu8, hv0, hv1, hv2, hv3, hv4, hv5, hv6, hv7, hv8, ew_35, ew_32, ew_29, ew_26, ew_23, ew_20, ew_17, ew_14, ew_11, ew_6, ew_1]
      · rw [hv_39]; simp only [turnV, blB, hu0, hu1, hu2, hu3, hu4, hu5, hu6, hu7, hu8, hv0, hv1, hv2, hv3, hv4, hv5, hv6, hv7, hv8, ew_35, ew_32, ew_29, ew_26, ew_23, ew_20, ew_17, ew_14, ew_11, ew_6, ew_1]
      · rw [hv_40]; simp only [turnV, blB, hu0, hu1, hu2, hu3, hu4, hu5, hu6, hu7, hu8, hv0, hv1, hv2, hv3, hv4, hv5, hv6, hv7, hv8, ew_35, ew_32, ew_29, ew_26, ew_23, ew_20, ew_17, ew_14, ew_11, ew_6, ew_1]
      · rw [hv_41]; simp only [turnV, blB, hu0, hu1, hu2, hu3, hu4, hu5, hu6, hu7, hu8, hv0, hv1, hv2, hv3, hv4, hv5, hv6, hv7, hv8, ew_35, ew_32, ew_29, ew_26, ew_23, ew_20, ew_17, ew_14, ew_11, ew_6, ew_1]
      · rw [hv_42]; simp only [turnV, blB, hu0, hu1, hu2, hu3, hu4, hu5, hu6, hu7, hu8, hv0, hv1, hv2, hv3, hv4, hv5, hv6, hv7, hv8, ew_35, ew_32, ew_29, ew_26, ew_23, ew_20, ew_17, ew_14, ew_11, ew_6, ew_1]
      · rw [hv_43]; simp only [turnV, blB, hu0, hu1, hu2, hu3, hu4, hu5, hu6, hu7, hu8, hv0, hv1, hv2, hv3, hv4, hv5, hv6, hv7, hv8, ew_35, ew_32, ew_29, ew_26, ew_23, ew_20, ew_17, ew_14, ew_11, ew_6, ew_1]
      · rw [hv_44]; simp only [turnV, blB, hu0, hu1, hu2, hu3, hu4, hu5, hu6, hu7, hu8, hv0, hv1, hv2, hv3, hv4, hv5, hv6, hv7, hv8, ew_35, ew_32, ew_29, ew_26, ew_23, ew_20, ew_17, ew_14, ew_11, ew_6, ew_1]
      · rw [hv_36]; simp only [turnV, blB, hu0, hu1, hu2, hu3, hu4, hu5, hu6, hu7, hu8, hv0, hv1, hv2, hv3, hv4, hv5, hv6, hv7, hv8, ew_35, ew_32, ew_29, ew_26, ew_23, ew_20, ew_17, ew_14, ew_11, ew_6, ew_1]
    · rw [setB_out hj]; exact (fr11 j (by omega)).trans ((fr10 j (by omega)).trans ((fr9 j (by omega)).trans ((fr8 j (by omega)).trans ((fr7 j (by omega)).trans ((fr6 j (by omega)).trans ((fr5 j (by omega)).trans ((fr4 j (by omega)).trans ((fr3 j (by omega)).trans ((fr2 j (by omega)).trans ((fr1 j (by omega)).trans (rfl)))))))))))
  rw [hzf] at hw
  exact kr () _ _ _ _ d_B_turn_204 hw trivial
set_option maxRecDepth 100000 in
set_option maxHeartbeats 4000000 in
theorem c_B_moveScales (l : Launch) (D : va_G) (cs : Nat → ClassId) (ad : Nat → Nat → Nat) (O P : Nat → Nat → Int) (z : Nat → Int) (b a : Nat) (f d : Int) (hb : b < 13) (ha : a < 13) (hab : a ≠ b) (k0 : -18 ≤ f ∧ f ≤ 18) (k1 : -18 ≤ d ∧ d ≤ 18) : Ct (S := Unit) l D (tyL cs) y_B_moveScales b_B_moveScales 4 none (rm 3) [.ref (ad 2 b), .ref (ad 2 a), .int (iI f), .int (iI d)] (wO ad cs O P z) (fun _ => True) (fun _ => none) (fun _ => wO ad cs O P (setB z b (scaleV (blB z b) (blB z a) f d))) := by
  refine Ct.introV (by decide) (Nat.le_of_ble_eq_true rfl) (fun _ => rfl) ?_
  intro p e s m below meth c A args Q H locs X hnm hw kr ls hl
  have X : CX D (tyL cs) R_B b_B_moveScales 4 p m c s args := X
  have hl : lv_has ls 4 [(0, .ref (ad 2 b)), (1, .ref (ad 2 a)), (2, .int (iI f)), (3, .int (iI d))] := hl
  obtain ⟨u0, hu0⟩ : ∃ g, z (9 * b + 0) = g := ⟨_, rfl⟩
  obtain ⟨u1, hu1⟩ : ∃ g, z (9 * b + 1) = g := ⟨_, rfl⟩
  obtain ⟨u2, hu2⟩ : ∃ g, z (9 * b + 2) = g := ⟨_, rfl⟩
  obtain ⟨u3, hu3⟩ : ∃ g, z (9 * b + 3) = g := ⟨_, rfl⟩
  obtain ⟨u4, hu4⟩ : ∃ g, z (9 * b + 4) = g := ⟨_, rfl⟩
  obtain ⟨u5, hu5⟩ : ∃ g, z (9 * b + 5) = g := ⟨_, rfl⟩
  obtain ⟨u6, hu6⟩ : ∃ g, z (9 * b + 6) = g := ⟨_, rfl⟩
  obtain ⟨u7, hu7⟩ : ∃ g, z (9 * b + 7) = g := ⟨_, rfl⟩
  obtain ⟨u8, hu8⟩ : ∃ g, z (9 * b + 8) = g := ⟨_, rfl⟩
  obtain ⟨v0, hv0⟩ : ∃ g, z (9 * a + 0) = g := ⟨_, rfl⟩
  obtain ⟨v1, hv1⟩ : ∃ g, z (9 * a + 1) = g := ⟨_, rfl⟩
  obtain ⟨v2, hv2⟩ : ∃ g, z (9 * a + 2) = g := ⟨_, rfl⟩
  obtain ⟨v3, hv3⟩ : ∃ g, z (9 * a + 3) = g := ⟨_, rfl⟩
  obtain ⟨v4, hv4⟩ : ∃ g, z (9 * a + 4) = g := ⟨_, rfl⟩
  obtain ⟨v5, hv5⟩ : ∃ g, z (9 * a + 5) = g := ⟨_, rfl⟩
  obtain ⟨v6, hv6⟩ : ∃ g, z (9 * a + 6) = g := ⟨_, rfl⟩
  obtain ⟨v7, hv7⟩ : ∃ g, z (9 * a + 7) = g := ⟨_, rfl⟩
  obtain ⟨v8, hv8⟩ : ∃ g, z (9 * a + 8) = g := ⟨_, rfl⟩
  have y1 := mul_rng k0 k0
  have y2 := mul_rng k1 k1
  refine sy_aload_n X d_B_moveScales_0 hl 0 rfl ?_
  refine b_get [] X hw 0 hb (by decide) (tt_of k115 rfl) d_B_moveScales_1 ?_
  refine sy_aload_n X d_B_moveScales_4 hl 1 rfl ?_
  refine b_get [] X hw 0 ha (by decide) (tt_of k115 rfl) d_B_moveScales_5 ?_
  refine sy_iload_n X d_B_moveScales_8 hl 2 rfl ?_
  refine sy_iload_n X d_B_moveScales_9 hl 2 rfl ?_
  refine sy_imul X d_B_moveScales_10 ?_
  refine call_Vv (Xs := XC ad O P) (b := ad 0 (9 * b + 0)) (As := [.ref (ad 0 (9 * a + 0)), .int (iI (f * f))]) (rest := []) X lk_B_116 (c_W_setTimes l D cs ad z (9 * b + 0) (9 * a + 0) (f * f) (by omega) (by omega) ⟨by omega, by omega⟩) ⟨by decide, by decide⟩ (rcv_Z (by omega)) hw rfl hl.1 (Nat.le_of_ble_eq_true rfl) d_B_moveScales_11 rfl rfl ⟨Nat.zero_le _, Nat.zero_le _⟩ (fun _ H locs _ hw => ?_)
  obtain ⟨z1, ez1⟩ : ∃ g, g = up1 z (9 * b + 0) (z (9 * a + 0) * (f * f)) := ⟨_, rfl⟩
  rw [← ez1] at hw
  have fr1 : ∀ j, j ≠ (9 * b + 0) → z1 j = z j := fun j h0 => by rw [ez1, up1_n _ h0]
  obtain ⟨w_1, ew_1⟩ : ∃ g : Int, g = v0 * (f * f) := ⟨_, rfl⟩
  have hv_2 : z1 (9 * b + 0) = w_1 := by rw [ez1, up1_s, hv0, ew_1]
  refine sy_aload_n X d_B_moveScales_14 hl 0 rfl ?_
  refine b_get [] X hw 5 hb (by decide) (tt_of k121 rfl) d_B_moveScales_15 ?_
  refine sy_iload_n X d_B_moveScales_18 hl 2 rfl ?_
  have hv_3 : z1 (9 * b + 5) = u5 := (fr1 (9 * b + 5) (by omega)).trans (hu5)
  refine call_Vv (Xs := XC ad O P) (b := ad 0 (9 * b + 5)) (As := [.int (iI f)]) (rest := []) X lk_B_63 (c_W_scale l D cs ad z1 (9 * b + 5) f (by omega) ⟨by omega, by omega⟩) ⟨by decide, by decide⟩ (rcv_Z (by omega)) hw rfl hl.1 (Nat.le_of_ble_eq_true rfl) d_B_moveScales_19 rfl rfl ⟨Nat.zero_le _, Nat.zero_le _⟩ (fun _ H locs _ hw => ?_)
  obtain ⟨z2, ez2⟩ : ∃ g, g = up1 z1 (9 * b + 5) (z1 (9 * b + 5) * f) := ⟨_, rfl⟩
  rw [← ez2] at hw
  have fr2 : ∀ j, j ≠ (9 * b + 5) → z2 j = z1 j := fun j h0 => by rw [ez2, up1_n _ h0]
  obtain ⟨w_4, ew_4⟩ : ∃ g : Int, g = u5 * f := ⟨_, rfl⟩
  have hv_5 : z2 (9 * b + 5) = w_4 := by rw [ez2, up1_s, hv_3, ew_4]
  refine sy_aload_n X d_B_moveScales_22 hl 0 rfl ?_
  refine b_get [] X hw 6 hb (by decide) (tt_of k122 rfl) d_B_moveScales_23 ?_
  refine sy_iload_n X d_B_moveScales_26 hl 2 rfl ?_
  have hv_6 : z2 (9 * b + 6) = u6 := (fr2 (9 * b + 6) (by omega)).trans ((fr1 (9 * b + 6) (by omega)).trans (hu6))
  refine call_Vv (Xs := XC ad O P) (b := ad 0 (9 * b + 6)) (As := [.int (iI f)]) (rest := []) X lk_B_63 (c_W_scale l D cs ad z2 (9 * b + 6) f (by omega) ⟨by omega, by omega⟩) ⟨by decide, by decide⟩ (rcv_Z (by omega)) hw rfl hl.1 (Nat.le_of_ble_eq_true rfl) d_B_moveScales_27 rfl rfl ⟨Nat.zero_le _, Nat.zero_le _⟩ (fun _ H locs _ hw => ?_)
  obtain ⟨z3, ez3⟩ : ∃ g, g = up1 z2 (9 * b + 6) (z2 (9 * b + 6) * f) := ⟨_, rfl⟩
  rw [← ez3] at hw
  have fr3 : ∀ j, j ≠ (9 * b + 6) → z3 j = z2 j := fun j h0 => by rw [ez3, up1_n _ h0]
  obtain ⟨w_7, ew_7⟩ : ∃ g : Int, g = u6 * f := ⟨_, rfl⟩
  have hv_8 : z3 (9 * b + 6) = w_7 := by rw [ez3, up1_s, hv_6, ew_7]
  refine sy_aload_n X d_B_moveScales_30 hl 0 rfl ?_
  refine b_get [] X hw 4 hb (by decide) (tt_of k119 rfl) d_B_moveScales_31 ?_
  refine sy_aload_n X d_B_moveScales_34 hl 1 rfl ?_
  refine b_get [] X hw 4 ha (by decide) (tt_of k119 rfl) d_B_moveScales_35 ?_
  refine sy_iload_n X d_B_moveScales_38 hl 3 rfl ?_
  refine sy_iload_n X d_B_moveScales_39 hl 3 rfl ?_
  refine sy_imul X d_B_moveScales_40 ?_
  have hv_9 : z3 (9 * a + 4) = v4 := (fr3 (9 * a + 4) (by omega)).trans ((fr2 (9 * a + 4) (by omega)).trans ((fr1 (9 * a + 4) (by omega)).trans (hv4)))
  refine call_Vv (Xs := XC ad O P) (b := ad 0 (9 * b + 4)) (As := [.ref (ad 0 (9 * a + 4)), .int (iI (d * d))]) (rest := []) X lk_B_116 (c_W_setTimes l D cs ad z3 (9 * b + 4) (9 * a + 4) (d * d) (by omega) (by omega) ⟨by omega, by omega⟩) ⟨by decide, by decide⟩ (rcv_Z (by omega)) hw rfl hl.1 (Nat.le_of_ble_eq_true rfl) d_B_moveScales_41 rfl rfl ⟨Nat.zero_le _, Nat.zero_le _⟩ (fun _ H locs _ hw => ?_)
  obtain ⟨z4, ez4⟩ : ∃ g, g = up1 z3 (9 * b + 4) (z3 (9 * a + 4) * (d * d)) := ⟨_, rfl⟩
  rw [← ez4] at hw
  have fr4 : ∀ j, j ≠ (9 * b + 4) → z4 j = z3 j := fun j h0 => by rw [ez4, up1_n _ h0]
  obtain ⟨w_10, ew_10⟩ : ∃ g : Int, g = v4 * (d * d) := ⟨_, rfl⟩
  have hv_11 : z4 (9 * b + 4) = w_10 := by rw [ez4, up1_s, hv_9, ew_10]
  refine sy_aload_n X d_B_moveScales_44 hl 0 rfl ?_
  refine b_get [] X hw 7 hb (by decide) (tt_of k123 rfl) d_B_moveScales_45 ?_
  refine sy_iload_n X d_B_moveScales_48 hl 3 rfl ?_
  have hv_12 : z4 (9 * b + 7) = u7 := (fr4 (9 * b + 7) (by omega)).trans ((fr3 (9 * b + 7) (by omega)).trans ((fr2 (9 * b + 7) (by omega)).trans ((fr1 (9 * b + 7) (by omega)).trans (hu7))))
  refine call_Vv (Xs := XC ad O P) (b := ad 0 (9 * b + 7)) (As := [.int (iI d)]) (rest := []) X lk_B_63 (c_W_scale l D cs ad z4 (9 * b + 7) d (by omega) ⟨by omega, by omega⟩) ⟨by decide, by decide⟩ (rcv_Z (by omega)) hw rfl hl.1 (Nat.le_of_ble_eq_true rfl) d_B_moveScales_49 rfl rfl ⟨Nat.zero_le _, Nat.zero_le _⟩ (fun _ H locs _ hw => ?_)
  obtain ⟨z5, ez5⟩ : ∃ g, g = up1 z4 (9 * b + 7) (z4 (9 * b + 7) * d) := ⟨_, rfl⟩
  rw [← ez5] at hw
  have fr5 : ∀ j, j ≠ (9 * b + 7) → z5 j = z4 j := fun j h0 => by rw [ez5, up1_n _ h0]
  obtain ⟨w_13, ew_13⟩ : ∃ g : Int, g = u7 * d := ⟨_, rfl⟩
  have hv_14 : z5 (9 * b + 7) = w_13 := by rw [ez5, up1_s, hv_12, ew_13]
  refine sy_aload_n X d_B_moveScales_52 hl 0 rfl ?_
  refine b_get [] X hw 8 hb (by decide) (tt_of k125 rfl) d_B_moveScales_53 ?_
  refine sy_iload_n X d_B_moveScales_56 hl 3 rfl ?_
  have hv_15 : z5 (9 * b + 8) = u8 := (fr5 (9 * b + 8) (by omega)).trans ((fr4 (9 * b + 8) (by omega)).trans ((fr3 (9 * b + 8) (by omega)).trans ((fr2 (9 * b + 8) (by omega)).trans ((fr1 (9 * b + 8) (by omega)).trans (hu8)))))
  refine call_Vv (Xs := XC ad O P) (b := ad 0 (9 * b + 8)) (As := [.int (iI d)]) (rest := []) X lk_B_63 (c_W_scale l D cs ad z5 (9 * b + 8) d (by omega) ⟨by omega, by omega⟩) ⟨by decide, by decide⟩ (rcv_Z (by omega)) hw rfl hl.1 (Nat.le_of_ble_eq_true rfl) d_B_moveScales_57 rfl rfl ⟨Nat.zero_le _, Nat.zero_le _⟩ (fun _ H locs _ hw => ?_)
  obtain ⟨z6, ez6⟩ : ∃ g, g = up1 z5 (9 * b + 8) (z5 (9 * b + 8) * d) := ⟨_, rfl⟩
  rw [← ez6] at hw
  have fr6 : ∀ j, j ≠ (9 * b + 8) → z6 j = z5 j := fun j h0 => by rw [ez6, up1_n _ h0]
  obtain ⟨w_16, ew_16⟩ : ∃ g : Int, g = u8 * d := ⟨_, rfl⟩
  have hv_17 : z6 (9 * b + 8) = w_16 := by rw [ez6, up1_s, hv_15, ew_16]
  have hv_18 : z6 (9 * b + 0) = w_1 := (fr6 (9 * b + 0) (by omega)).trans ((fr5 (9 * b + 0) (by omega)).trans ((fr4 (9 * b + 0) (by omega)).trans ((fr3 (9 * b + 0) (by omega)).trans ((fr2 (9 * b + 0) (by omega)).trans (hv_2)))))
  have hv_19 : z6 (9 * b + 1) = u1 := (fr6 (9 * b + 1) (by omega)).trans ((fr5 (9 * b + 1) (by omega)).trans ((fr4 (9 * b + 1) (by omega)).trans ((fr3 (9 * b + 1) (by omega)).trans ((fr2 (9 * b + 1) (by omega)).trans ((fr1 (9 * b + 1) (by omega)).trans (hu1))))))
  have hv_20 : z6 (9 * b + 2) = u2 := (fr6 (9 * b + 2) (by omega)).trans ((fr5 (9 * b + 2) (by omega)).trans ((fr4 (9 * b + 2) (by omega)).trans ((fr3 (9 * b + 2) (by omega)).trans ((fr2 (9 * b + 2) (by omega)).trans ((fr1 (9 * b + 2) (by omega)).trans (hu2))))))
  have hv_21 : z6 (9 * b + 3) = u3 := (fr6 (9 * b + 3) (by omega)).trans ((fr5 (9 * b + 3) (by omega)).trans ((fr4 (9 * b + 3) (by omega)).trans ((fr3 (9 * b + 3) (by omega)).trans ((fr2 (9 * b + 3) (by omega)).trans ((fr1 (9 * b + 3) (by omega)).trans (hu3))))))
  have hv_22 : z6 (9 * b + 4) = w_10 := (fr6 (9 * b + 4) (by omega)).trans ((fr5 (9 * b + 4) (by omega)).trans (hv_11))
  have hv_23 : z6 (9 * b + 5) = w_4 := (fr6 (9 * b + 5) (by omega)).trans ((fr5 (9 * b + 5) (by omega)).trans ((fr4 (9 * b + 5) (by omega)).trans ((fr3 (9 * b + 5) (by omega)).trans (hv_5))))
  have hv_24 : z6 (9 * b + 6) = w_7 := (fr6 (9 * b + 6) (by omega)).trans ((fr5 (9 * b + 6) (by omega)).trans ((fr4 (9 * b + 6) (by omega)).trans (hv_8)))
  have hv_25 : z6 (9 * b + 7) = w_13 := (fr6 (9 * b + 7) (by omega)).trans (hv_14)
  have hzf : z6 = setB z b (scaleV (blB z b) (blB z a) f d) := by
    funext j
    by_cases hj : 9 * b ≤ j ∧ j < 9 * b + 9
    · obtain ⟨i9, hi9⟩ : ∃ i9, j = 9 * b + i9 ∧ i9 < 9 := ⟨j - 9 * b, by omega⟩
      obtain ⟨hij, hi9⟩ := hi9
      subst hij
      rw [setB_in hi9]
      have h9 : i9 = 0 ∨ i9 = 1 ∨ i9 = 2 ∨ i9 = 3 ∨ i9 = 4 ∨ i9 = 5 ∨ i9 = 6 ∨ i9 = 7 ∨ i9 = 8 := by omega
      rcases h9 with e9 | e9 | e9 | e9 | e9 | e9 | e9 | e9 | e9 <;> subst e9
      · rw [hv_18]; simp only [scaleV, blB, hu0, hu1, hu2, hu3, hu4, hu5, hu6, hu7, hu8, hv0, hv1, hv2, hv3, hv4, hv5, hv6, hv7, hv8, ew_16, ew_13, ew_10, ew_7, ew_4, ew_1]
      · rw [hv_19]; simp only [scaleV, blB, hu0, hu1, hu2, hu3, hu4, hu5, hu6, hu7, hu8, hv0, hv1, hv2, hv3, hv4, hv5, hv6, hv7, hv8, ew_16, ew_13, ew_10, ew_7, ew_4, ew_1]
      · rw [hv_20]; simp only [scaleV, blB, hu0, hu1, hu2, hu3, hu4, hu5, hu6, hu7, hu8, hv0, hv1, hv2, hv3, hv4, hv5, hv6, hv7, hv8, ew_16, ew_13, ew_10, ew_7, ew_4, ew_1]
      · rw [hv_21]; simp only [scaleV, blB, hu0, hu1, hu2, hu3, hu4, hu5, hu6, hu7, hu8, hv0, hv1, hv2, hv3, hv4, hv5, hv6, hv7, hv8, ew_16, ew_13, ew_10, ew_7, ew_4, ew_1]
      · rw [hv_22]; simp only [scaleV, blB, hu0, hu1, hu2, hu3, hu4, hu5, hu6, hu7, hu8, hv0, hv1, hv2, hv3, hv4, hv5, hv6, hv7, hv8, ew_16, ew_13, ew_10, ew_7, ew_4, ew_1]
      · rw [hv_23]; simp only [scaleV, blB, hu0, hu1, hu2, hu3, hu4, hu5, hu6, hu7, hu8, hv0, hv1, hv2, hv3, hv4, hv5, hv6, hv7, hv8, ew_16, ew_13, ew_10, ew_7, ew_4, ew_1]
      · rw [hv_24]; simp only [scaleV, blB, hu0, hu1, hu2, hu3, hu4, hu5, hu6, hu7, hu8, hv0, hv1, hv2, hv3, hv4, hv5, hv6, hv7, hv8, ew_16, ew_13, ew_10, ew_7, ew_4, ew_1]
      · rw [hv_25]; simp only [scaleV, blB, hu0, hu1, hu2, hu3, hu4, hu5, hu6, hu7, hu8, hv0, hv1, hv2, hv3, hv4, hv5, hv6, hv7, hv8, ew_16, ew_13, ew_10, ew_7, ew_4, ew_1]
      · rw [hv_17]; simp only [scaleV, blB, hu0, hu1, hu2, hu3, hu4, hu5, hu6, hu7, hu8, hv0, hv1, hv2, hv3, hv4, hv5, hv6, hv7, hv8, ew_16, ew_13, ew_10, ew_7, ew_4, ew_1]
    · rw [setB_out hj]; exact (fr6 j (by omega)).trans ((fr5 j (by omega)).trans ((fr4 j (by omega)).trans ((fr3 j (by omega)).trans ((fr2 j (by omega)).trans ((fr1 j (by omega)).trans (rfl))))))
  rw [hzf] at hw
  exact kr () _ _ _ _ d_B_moveScales_60 hw trivial
set_option maxRecDepth 100000 in
set_option maxHeartbeats 4000000 in
theorem c_B_join (l : Launch) (D : va_G) (cs : Nat → ClassId) (ad : Nat → Nat → Nat) (O P : Nat → Nat → Int) (z : Nat → Int) (b a c0 : Nat) (hb : b < 13) (ha : a < 13) (hc : c0 < 13) (hab : a ≠ b) (hcb : c0 ≠ b) (hac : a ≠ c0) : Ct (S := Unit) l D (tyL cs) y_B_join b_B_join 3 none (rm 4) [.ref (ad 2 b), .ref (ad 2 a), .ref (ad 2 c0)] (wO ad cs O P z) (fun _ => True) (fun _ => none) (fun _ => wO ad cs O P (setB z b (joinV (blB z b) (blB z a) (blB z c0)))) := by
  refine Ct.introV (by decide) (Nat.le_of_ble_eq_true rfl) (fun _ => rfl) ?_
  intro p e s m below meth c A args Q H locs X hnm hw kr ls hl
  have X : CX D (tyL cs) R_B b_B_join 3 p m c s args := X
  have hl : lv_has ls 3 [(0, .ref (ad 2 b)), (1, .ref (ad 2 a)), (2, .ref (ad 2 c0))] := hl
  obtain ⟨u0, hu0⟩ : ∃ g, z (9 * b + 0) = g := ⟨_, rfl⟩
  obtain ⟨u1, hu1⟩ : ∃ g, z (9 * b + 1) = g := ⟨_, rfl⟩
  obtain ⟨u2, hu2⟩ : ∃ g, z (9 * b + 2) = g := ⟨_, rfl⟩
  obtain ⟨u3, hu3⟩ : ∃ g, z (9 * b + 3) = g := ⟨_, rfl⟩
  obtain ⟨u4, hu4⟩ : ∃ g, z (9 * b + 4) = g := ⟨_, rfl⟩
  obtain ⟨u5, hu5⟩ : ∃ g, z (9 * b + 5) = g := ⟨_, rfl⟩
  obtain ⟨u6, hu6⟩ : ∃ g, z (9 * b + 6) = g := ⟨_, rfl⟩
  obtain ⟨u7, hu7⟩ : ∃ g, z (9 * b + 7) = g := ⟨_, rfl⟩
  obtain ⟨u8, hu8⟩ : ∃ g, z (9 * b + 8) = g := ⟨_, rfl⟩
  obtain ⟨v0, hv0⟩ : ∃ g, z (9 * a + 0) = g := ⟨_, rfl⟩
  obtain ⟨v1, hv1⟩ : ∃ g, z (9 * a + 1) = g := ⟨_, rfl⟩
  obtain ⟨v2, hv2⟩ : ∃ g, z (9 * a + 2) = g := ⟨_, rfl⟩
  obtain ⟨v3, hv3⟩ : ∃ g, z (9 * a + 3) = g := ⟨_, rfl⟩
  obtain ⟨v4, hv4⟩ : ∃ g, z (9 * a + 4) = g := ⟨_, rfl⟩
  obtain ⟨v5, hv5⟩ : ∃ g, z (9 * a + 5) = g := ⟨_, rfl⟩
  obtain ⟨v6, hv6⟩ : ∃ g, z (9 * a + 6) = g := ⟨_, rfl⟩
  obtain ⟨v7, hv7⟩ : ∃ g, z (9 * a + 7) = g := ⟨_, rfl⟩
  obtain ⟨v8, hv8⟩ : ∃ g, z (9 * a + 8) = g := ⟨_, rfl⟩
  obtain ⟨w0, hw0⟩ : ∃ g, z (9 * c0 + 0) = g := ⟨_, rfl⟩
  obtain ⟨w1, hw1⟩ : ∃ g, z (9 * c0 + 1) = g := ⟨_, rfl⟩
  obtain ⟨w2, hw2⟩ : ∃ g, z (9 * c0 + 2) = g := ⟨_, rfl⟩
  obtain ⟨w3, hw3⟩ : ∃ g, z (9 * c0 + 3) = g := ⟨_, rfl⟩
  obtain ⟨w4, hw4⟩ : ∃ g, z (9 * c0 + 4) = g := ⟨_, rfl⟩
  obtain ⟨w5, hw5⟩ : ∃ g, z (9 * c0 + 5) = g := ⟨_, rfl⟩
  obtain ⟨w6, hw6⟩ : ∃ g, z (9 * c0 + 6) = g := ⟨_, rfl⟩
  obtain ⟨w7, hw7⟩ : ∃ g, z (9 * c0 + 7) = g := ⟨_, rfl⟩
  obtain ⟨w8, hw8⟩ : ∃ g, z (9 * c0 + 8) = g := ⟨_, rfl⟩
  refine sy_aload_n X d_B_join_0 hl 0 rfl ?_
  refine b_get [] X hw 1 hb (by decide) (tt_of k116 rfl) d_B_join_1 ?_
  refine sy_aload_n X d_B_join_4 hl 1 rfl ?_
  refine b_get [] X hw 1 ha (by decide) (tt_of k116 rfl) d_B_join_5 ?_
  refine sy_aload_n X d_B_join_8 hl 2 rfl ?_
  refine b_get [] X hw 0 hc (by decide) (tt_of k115 rfl) d_B_join_9 ?_
  refine sy_aload_n X d_B_join_12 hl 2 rfl ?_
  refine b_get [] X hw 1 hc (by decide) (tt_of k116 rfl) d_B_join_13 ?_
  refine sy_aload_n X d_B_join_16 hl 1 rfl ?_
  refine b_get [] X hw 0 ha (by decide) (tt_of k115 rfl) d_B_join_17 ?_
  refine call_Vv (Xs := XC ad O P) (b := ad 0 (9 * b + 1)) (As := [.ref (ad 0 (9 * a + 1)), .ref (ad 0 (9 * c0 + 0)), .ref (ad 0 (9 * c0 + 1)), .ref (ad 0 (9 * a + 0))]) (rest := []) X lk_B_119 (c_W_setProducts l D cs ad z (9 * b + 1) (9 * a + 1) (9 * c0 + 0) (9 * c0 + 1) (9 * a + 0) (by omega) (by omega) (by omega) (by omega) (by omega) (by omega) (by omega) (by omega) (by omega)) ⟨by decide, by decide⟩ (rcv_Z (by omega)) hw rfl hl.1 (Nat.le_of_ble_eq_true rfl) d_B_join_20 rfl rfl ⟨Nat.zero_le _, Nat.zero_le _⟩ (fun _ H locs _ hw => ?_)
  obtain ⟨z1, ez1⟩ : ∃ g, g = up1 z (9 * b + 1) (z (9 * a + 1) * z (9 * c0 + 0) + z (9 * c0 + 1) * z (9 * a + 0)) := ⟨_, rfl⟩
  rw [← ez1] at hw
  have fr1 : ∀ j, j ≠ (9 * b + 1) → z1 j = z j := fun j h0 => by rw [ez1, up1_n _ h0]
  obtain ⟨w_1, ew_1⟩ : ∃ g : Int, g = v1 * w0 + w1 * v0 := ⟨_, rfl⟩
  have hv_2 : z1 (9 * b + 1) = w_1 := by rw [ez1, up1_s, hv1, hw0, hw1, hv0, ew_1]
  refine sy_aload_n X d_B_join_23 hl 0 rfl ?_
  refine b_get [] X hw 2 hb (by decide) (tt_of k117 rfl) d_B_join_24 ?_
  refine sy_aload_n X d_B_join_27 hl 1 rfl ?_
  refine b_get [] X hw 2 ha (by decide) (tt_of k117 rfl) d_B_join_28 ?_
  refine sy_aload_n X d_B_join_31 hl 2 rfl ?_
  refine b_get [] X hw 0 hc (by decide) (tt_of k115 rfl) d_B_join_32 ?_
  refine sy_aload_n X d_B_join_35 hl 2 rfl ?_
  refine b_get [] X hw 2 hc (by decide) (tt_of k117 rfl) d_B_join_36 ?_
  refine sy_aload_n X d_B_join_39 hl 1 rfl ?_
  refine b_get [] X hw 0 ha (by decide) (tt_of k115 rfl) d_B_join_40 ?_
  have hv_3 : z1 (9 * a + 2) = v2 := (fr1 (9 * a + 2) (by omega)).trans (hv2)
  have hv_4 : z1 (9 * c0 + 0) = w0 := (fr1 (9 * c0 + 0) (by omega)).trans (hw0)
  have hv_5 : z1 (9 * c0 + 2) = w2 := (fr1 (9 * c0 + 2) (by omega)).trans (hw2)
  have hv_6 : z1 (9 * a + 0) = v0 := (fr1 (9 * a + 0) (by omega)).trans (hv0)
  refine call_Vv (Xs := XC ad O P) (b := ad 0 (9 * b + 2)) (As := [.ref (ad 0 (9 * a + 2)), .ref (ad 0 (9 * c0 + 0)), .ref (ad 0 (9 * c0 + 2)), .ref (ad 0 (9 * a + 0))]) (rest := []) X lk_B_119 (c_W_setProducts l D cs ad z1 (9 * b + 2) (9 * a + 2) (9 * c0 + 0) (9 * c0 + 2) (9 * a + 0) (by omega) (by omega) (by omega) (by omega) (by omega) (by omega) (by omega) (by omega) (by omega)) ⟨by decide, by decide⟩ (rcv_Z (by omega)) hw rfl hl.1 (Nat.le_of_ble_eq_true rfl) d_B_join_43 rfl rfl ⟨Nat.zero_le _, Nat.zero_le _⟩ (fun _ H locs _ hw => ?_)
  obtain ⟨z2, ez2⟩ : ∃ g, g = up1 z1 (9 * b + 2) (z1 (9 * a + 2) * z1 (9 * c0 + 0) + z1 (9 * c0 + 2) * z1 (9 * a + 0)) := ⟨_, rfl⟩
  rw [← ez2] at hw
  have fr2 : ∀ j, j ≠ (9 * b + 2) → z2 j = z1 j := fun j h0 => by rw [ez2, up1_n _ h0]
  obtain ⟨w_7, ew_7⟩ : ∃ g : Int, g = v2 * w0 + w2 * v0 := ⟨_, rfl⟩
  have hv_8 : z2 (9 * b + 2) = w_7 := by rw [ez2, up1_s, hv_3, hv_4, hv_5, hv_6, ew_7]
  refine sy_aload_n X d_B_join_46 hl 0 rfl ?_
  refine b_get [] X hw 3 hb (by decide) (tt_of k118 rfl) d_B_join_47 ?_
  refine sy_aload_n X d_B_join_50 hl 1 rfl ?_
  refine b_get [] X hw 3 ha (by decide) (tt_of k118 rfl) d_B_join_51 ?_
  refine sy_aload_n X d_B_join_54 hl 2 rfl ?_
  refine b_get [] X hw 0 hc (by decide) (tt_of k115 rfl) d_B_join_55 ?_
  refine sy_aload_n X d_B_join_58 hl 2 rfl ?_
  refine b_get [] X hw 3 hc (by decide) (tt_of k118 rfl) d_B_join_59 ?_
  refine sy_aload_n X d_B_join_62 hl 1 rfl ?_
  refine b_get [] X hw 0 ha (by decide) (tt_of k115 rfl) d_B_join_63 ?_
  have hv_9 : z2 (9 * a + 3) = v3 := (fr2 (9 * a + 3) (by omega)).trans ((fr1 (9 * a + 3) (by omega)).trans (hv3))
  have hv_10 : z2 (9 * c0 + 0) = w0 := (fr2 (9 * c0 + 0) (by omega)).trans (hv_4)
  have hv_11 : z2 (9 * c0 + 3) = w3 := (fr2 (9 * c0 + 3) (by omega)).trans ((fr1 (9 * c0 + 3) (by omega)).trans (hw3))
  have hv_12 : z2 (9 * a + 0) = v0 := (fr2 (9 * a + 0) (by omega)).trans (hv_6)
  refine call_Vv (Xs := XC ad O P) (b := ad 0 (9 * b + 3)) (As := [.ref (ad 0 (9 * a + 3)), .ref (ad 0 (9 * c0 + 0)), .ref (ad 0 (9 * c0 + 3)), .ref (ad 0 (9 * a + 0))]) (rest := []) X lk_B_119 (c_W_setProducts l D cs ad z2 (9 * b + 3) (9 * a + 3) (9 * c0 + 0) (9 * c0 + 3) (9 * a + 0) (by omega) (by omega) (by omega) (by omega) (by omega) (by omega) (by omega) (by omega) (by omega)) ⟨by decide, by decide⟩ (rcv_Z (by omega)) hw rfl hl.1 (Nat.le_of_ble_eq_true rfl) d_B_join_66 rfl rfl ⟨Nat.zero_le _, Nat.zero_le _⟩ (fun _ H locs _ hw => ?_)
  obtain ⟨z3, ez3⟩ : ∃ g, g = up1 z2 (9 * b + 3) (z2 (9 * a + 3) * z2 (9 * c0 + 0) + z2 (9 * c0 + 3) * z2 (9 * a + 0)) := ⟨_, rfl⟩
  rw [← ez3] at hw
  have fr3 : ∀ j, j ≠ (9 * b + 3) → z3 j = z2 j := fun j h0 => by rw [ez3, up1_n _ h0]
  obtain ⟨w_13, ew_13⟩ : ∃ g : Int, g = v3 * w0 + w3 * v0 := ⟨_, rfl⟩
  have hv_14 : z3 (9 * b + 3) = w_13 := by rw [ez3, up1_s, hv_9, hv_10, hv_11, hv_12, ew_13]
  refine sy_aload_n X d_B_join_69 hl 0 rfl ?_
  refine b_get [] X hw 4 hb (by decide) (tt_of k119 rfl) d_B_join_70 ?_
  refine sy_aload_n X d_B_join_73 hl 1 rfl ?_
  refine b_get [] X hw 2 ha (by decide) (tt_of k117 rfl) d_B_join_74 ?_
  refine sy_aload_n X d_B_join_77 hl 2 rfl ?_
  refine b_get [] X hw 2 hc (by decide) (tt_of k117 rfl) d_B_join_78 ?_
  refine sy_aload_n X d_B_join_81 hl 1 rfl ?_
  refine b_get [] X hw 2 ha (by decide) (tt_of k117 rfl) d_B_join_82 ?_
  refine sy_aload_n X d_B_join_85 hl 2 rfl ?_
  refine b_get [] X hw 2 hc (by decide) (tt_of k117 rfl) d_B_join_86 ?_
  have hv_15 : z3 (9 * a + 2) = v2 := (fr3 (9 * a + 2) (by omega)).trans ((fr2 (9 * a + 2) (by omega)).trans (hv_3))
  have hv_16 : z3 (9 * c0 + 2) = w2 := (fr3 (9 * c0 + 2) (by omega)).trans ((fr2 (9 * c0 + 2) (by omega)).trans (hv_5))
  refine call_Vv (Xs := XC ad O P) (b := ad 0 (9 * b + 4)) (As := [.ref (ad 0 (9 * a + 2)), .ref (ad 0 (9 * c0 + 2)), .ref (ad 0 (9 * a + 2)), .ref (ad 0 (9 * c0 + 2))]) (rest := []) X lk_B_119 (c_W_setProducts l D cs ad z3 (9 * b + 4) (9 * a + 2) (9 * c0 + 2) (9 * a + 2) (9 * c0 + 2) (by omega) (by omega) (by omega) (by omega) (by omega) (by omega) (by omega) (by omega) (by omega)) ⟨by decide, by decide⟩ (rcv_Z (by omega)) hw rfl hl.1 (Nat.le_of_ble_eq_true rfl) d_B_join_89 rfl rfl ⟨Nat.zero_le _, Nat.zero_le _⟩ (fun _ H locs _ hw => ?_)
  obtain ⟨z4, ez4⟩ : ∃ g, g = up1 z3 (9 * b + 4) (z3 (9 * a + 2) * z3 (9 * c0 + 2) + z3 (9 * a + 2) * z3 (9 * c0 + 2)) := ⟨_, rfl⟩
  rw [← ez4] at hw
  have fr4 : ∀ j, j ≠ (9 * b + 4) → z4 j = z3 j := fun j h0 => by rw [ez4, up1_n _ h0]
  obtain ⟨w_17, ew_17⟩ : ∃ g : Int, g = v2 * w2 + v2 * w2 := ⟨_, rfl⟩
  have hv_18 : z4 (9 * b + 4) = w_17 := by rw [ez4, up1_s, hv_15, hv_16, ew_17]
  refine sy_aload_n X d_B_join_92 hl 0 rfl ?_
  refine b_get [] X hw 4 hb (by decide) (tt_of k119 rfl) d_B_join_93 ?_
  refine sy_iconst X d_B_join_96 ?_
  refine call_Vv (Xs := XC ad O P) (b := ad 0 (9 * b + 4)) (As := [.int (iI (-1))]) (rest := []) X lk_B_63 (c_W_scale l D cs ad z4 (9 * b + 4) (-1) (by omega) ⟨by decide, by decide⟩) ⟨by decide, by decide⟩ (rcv_Z (by omega)) hw rfl hl.1 (Nat.le_of_ble_eq_true rfl) d_B_join_97 rfl rfl ⟨Nat.zero_le _, Nat.zero_le _⟩ (fun _ H locs _ hw => ?_)
  obtain ⟨z5, ez5⟩ : ∃ g, g = up1 z4 (9 * b + 4) (z4 (9 * b + 4) * (-1)) := ⟨_, rfl⟩
  rw [← ez5] at hw
  have fr5 : ∀ j, j ≠ (9 * b + 4) → z5 j = z4 j := fun j h0 => by rw [ez5, up1_n _ h0]
  obtain ⟨w_19, ew_19⟩ : ∃ g : Int, g = w_17 * (-1) := ⟨_, rfl⟩
  have hv_20 : z5 (9 * b + 4) = w_19 := by rw [ez5, up1_s, hv_18, ew_19]
  refine sy_aload_n X d_B_join_100 hl 0 rfl ?_
  refine b_get [] X hw 4 hb (by decide) (tt_of k119 rfl) d_B_join_101 ?_
  refine sy_aload_n X d_B_join_104 hl 1 rfl ?_
  refine b_get [] X hw 1 ha (by decide) (tt_of k116 rfl) d_B_join_105 ?_
  refine sy_aload_n X d_B_join_108 hl 2 rfl ?_
  refine b_get [] X hw 3 hc (by decide) (tt_of k118 rfl) d_B_join_109 ?_
  refine sy_aload_n X d_B_join_112 hl 1 rfl ?_
  refine b_get [] X hw 3 ha (by decide) (tt_of k118 rfl) d_B_join_113 ?_
  refine sy_aload_n X d_B_join_116 hl 2 rfl ?_
  refine b_get [] X hw 1 hc (by decide) (tt_of k116 rfl) d_B_join_117 ?_
  have hv_21 : z5 (9 * a + 1) = v1 := (fr5 (9 * a + 1) (by omega)).trans ((fr4 (9 * a + 1) (by omega)).trans ((fr3 (9 * a + 1) (by omega)).trans ((fr2 (9 * a + 1) (by omega)).trans ((fr1 (9 * a + 1) (by omega)).trans (hv1)))))
  have hv_22 : z5 (9 * c0 + 3) = w3 := (fr5 (9 * c0 + 3) (by omega)).trans ((fr4 (9 * c0 + 3) (by omega)).trans ((fr3 (9 * c0 + 3) (by omega)).trans (hv_11)))
  have hv_23 : z5 (9 * a + 3) = v3 := (fr5 (9 * a + 3) (by omega)).trans ((fr4 (9 * a + 3) (by omega)).trans ((fr3 (9 * a + 3) (by omega)).trans (hv_9)))
  have hv_24 : z5 (9 * c0 + 1) = w1 := (fr5 (9 * c0 + 1) (by omega)).trans ((fr4 (9 * c0 + 1) (by omega)).trans ((fr3 (9 * c0 + 1) (by omega)).trans ((fr2 (9 * c0 + 1) (by omega)).trans ((fr1 (9 * c0 + 1) (by omega)).trans (hw1)))))
  refine call_Vv (Xs := XC ad O P) (b := ad 0 (9 * b + 4)) (As := [.ref (ad 0 (9 * a + 1)), .ref (ad 0 (9 * c0 + 3)), .ref (ad 0 (9 * a + 3)), .ref (ad 0 (9 * c0 + 1))]) (rest := []) X lk_B_123 (c_W_addProducts l D cs ad z5 (9 * b + 4) (9 * a + 1) (9 * c0 + 3) (9 * a + 3) (9 * c0 + 1) (by omega) (by omega) (by omega) (by omega) (by omega) (by omega) (by omega) (by omega) (by omega)) ⟨by decide, by decide⟩ (rcv_Z (by omega)) hw rfl hl.1 (Nat.le_of_ble_eq_true rfl) d_B_join_120 rfl rfl ⟨Nat.zero_le _, Nat.zero_le _⟩ (fun _ H locs _ hw => ?_)
  obtain ⟨z6, ez6⟩ : ∃ g, g = up1 z5 (9 * b + 4) (z5 (9 * b + 4) + z5 (9 * a + 1) * z5 (9 * c0 + 3) + z5 (9 * a + 3) * z5 (9 * c0 + 1)) := ⟨_, rfl⟩
  rw [← ez6] at hw
  have fr6 : ∀ j, j ≠ (9 * b + 4) → z6 j = z5 j := fun j h0 => by rw [ez6, up1_n _ h0]
  obtain ⟨w_25, ew_25⟩ : ∃ g : Int, g = w_19 + v1 * w3 + v3 * w1 := ⟨_, rfl⟩
  have hv_26 : z6 (9 * b + 4) = w_25 := by rw [ez6, up1_s, hv_20, hv_21, hv_22, hv_23, hv_24, ew_25]
  refine sy_aload_n X d_B_join_123 hl 0 rfl ?_
  refine b_get [] X hw 4 hb (by decide) (tt_of k119 rfl) d_B_join_124 ?_
  refine sy_aload_n X d_B_join_127 hl 1 rfl ?_
  refine b_get [] X hw 4 ha (by decide) (tt_of k119 rfl) d_B_join_128 ?_
  refine sy_aload_n X d_B_join_131 hl 2 rfl ?_
  refine b_get [] X hw 0 hc (by decide) (tt_of k115 rfl) d_B_join_132 ?_
  refine sy_aload_n X d_B_join_135 hl 2 rfl ?_
  refine b_get [] X hw 4 hc (by decide) (tt_of k119 rfl) d_B_join_136 ?_
  refine sy_aload_n X d_B_join_139 hl 1 rfl ?_
  refine b_get [] X hw 0 ha (by decide) (tt_of k115 rfl) d_B_join_140 ?_
  have hv_27 : z6 (9 * a + 4) = v4 := (fr6 (9 * a + 4) (by omega)).trans ((fr5 (9 * a + 4) (by omega)).trans ((fr4 (9 * a + 4) (by omega)).trans ((fr3 (9 * a + 4) (by omega)).trans ((fr2 (9 * a + 4) (by omega)).trans ((fr1 (9 * a + 4) (by omega)).trans (hv4))))))
  have hv_28 : z6 (9 * c0 + 0) = w0 := (fr6 (9 * c0 + 0) (by omega)).trans ((fr5 (9 * c0 + 0) (by omega)).trans ((fr4 (9 * c0 + 0) (by omega)).trans ((fr3 (9 * c0 + 0) (by omega)).trans (hv_10))))
  have hv_29 : z6 (9 * c0 + 4) = w4 := (fr6 (9 * c0 + 4) (by omega)).trans ((fr5 (9 * c0 + 4) (by omega)).trans ((fr4 (9 * c0 + 4) (by omega)).trans ((fr3 (9 * c0 + 4) (by omega)).trans ((fr2 (9 * c0 + 4) (by omega)).trans ((fr1 (9 * c0 + 4) (by omega)).trans (hw4))))))
  have hv_30 : z6 (9 * a + 0) = v0 := (fr6 (9 * a + 0) (by omega)).trans ((fr5 (9 * a + 0) (by omega)).trans ((fr4 (9 * a + 0) (by omega)).trans ((fr3 (9 * a + 0) (by omega)).trans (hv_12))))
  refine call_Vv (Xs := XC ad O P) (b := ad 0 (9 * b + 4)) (As := [.ref (ad 0 (9 * a + 4)), .ref (ad 0 (9 * c0 + 0)), .ref (ad 0 (9 * c0 + 4)), .ref (ad 0 (9 * a + 0))]) (rest := []) X lk_B_123 (c_W_addProducts l D cs ad z6 (9 * b + 4) (9 * a + 4) (9 * c0 + 0) (9 * c0 + 4) (9 * a + 0) (by omega) (by omega) (by omega) (by omega) (by omega) (by omega) (by omega) (by omega) (by omega)) ⟨by decide, by decide⟩ (rcv_Z (by omega)) hw rfl hl.1 (Nat.le_of_ble_eq_true rfl) d_B_join_143 rfl rfl ⟨Nat.zero_le _, Nat.zero_le _⟩ (fun _ H locs _ hw => ?_)
  obtain ⟨z7, ez7⟩ : ∃ g, g = up1 z6 (9 * b + 4) (z6 (9 * b + 4) + z6 (9 * a + 4) * z6 (9 * c0 + 0) + z6 (9 * c0 + 4) * z6 (9 * a + 0)) := ⟨_, rfl⟩
  rw [← ez7] at hw
  have fr7 : ∀ j, j ≠ (9 * b + 4) → z7 j = z6 j := fun j h0 => by rw [ez7, up1_n _ h0]
  obtain ⟨w_31, ew_31⟩ : ∃ g : Int, g = w_25 + v4 * w0 + w4 * v0 := ⟨_, rfl⟩
  have hv_32 : z7 (9 * b + 4) = w_31 := by rw [ez7, up1_s, hv_26, hv_27, hv_28, hv_29, hv_30, ew_31]
  refine sy_aload_n X d_B_join_146 hl 0 rfl ?_
  refine b_get [] X hw 7 hb (by decide) (tt_of k123 rfl) d_B_join_147 ?_
  refine sy_aload_n X d_B_join_150 hl 1 rfl ?_
  refine b_get [] X hw 2 ha (by decide) (tt_of k117 rfl) d_B_join_151 ?_
  refine sy_aload_n X d_B_join_154 hl 2 rfl ?_
  refine b_get [] X hw 6 hc (by decide) (tt_of k122 rfl) d_B_join_155 ?_
  refine sy_aload_n X d_B_join_158 hl 2 rfl ?_
  refine b_get [] X hw 2 hc (by decide) (tt_of k117 rfl) d_B_join_159 ?_
  refine sy_aload_n X d_B_join_162 hl 1 rfl ?_
  refine b_get [] X hw 6 ha (by decide) (tt_of k122 rfl) d_B_join_163 ?_
  have hv_33 : z7 (9 * a + 2) = v2 := (fr7 (9 * a + 2) (by omega)).trans ((fr6 (9 * a + 2) (by omega)).trans ((fr5 (9 * a + 2) (by omega)).trans ((fr4 (9 * a + 2) (by omega)).trans (hv_15))))
  have hv_34 : z7 (9 * c0 + 6) = w6 := (fr7 (9 * c0 + 6) (by omega)).trans ((fr6 (9 * c0 + 6) (by omega)).trans ((fr5 (9 * c0 + 6) (by omega)).trans ((fr4 (9 * c0 + 6) (by omega)).trans ((fr3 (9 * c0 + 6) (by omega)).trans ((fr2 (9 * c0 + 6) (by omega)).trans ((fr1 (9 * c0 + 6) (by omega)).trans (hw6)))))))
  have hv_35 : z7 (9 * c0 + 2) = w2 := (fr7 (9 * c0 + 2) (by omega)).trans ((fr6 (9 * c0 + 2) (by omega)).trans ((fr5 (9 * c0 + 2) (by omega)).trans ((fr4 (9 * c0 + 2) (by omega)).trans (hv_16))))
  have hv_36 : z7 (9 * a + 6) = v6 := (fr7 (9 * a + 6) (by omega)).trans ((fr6 (9 * a + 6) (by omega)).trans ((fr5 (9 * a + 6) (by omega)).trans ((fr4 (9 * a + 6) (by omega)).trans ((fr3 (9 * a + 6) (by omega)).trans ((fr2 (9 * a + 6) (by omega)).trans ((fr1 (9 * a + 6) (by omega)).trans (hv6)))))))
  refine call_Vv (Xs := XC ad O P) (b := ad 0 (9 * b + 7)) (As := [.ref (ad 0 (9 * a + 2)), .ref (ad 0 (9 * c0 + 6)), .ref (ad 0 (9 * c0 + 2)), .ref (ad 0 (9 * a + 6))]) (rest := []) X lk_B_119 (c_W_setProducts l D cs ad z7 (9 * b + 7) (9 * a + 2) (9 * c0 + 6) (9 * c0 + 2) (9 * a + 6) (by omega) (by omega) (by omega) (by omega) (by omega) (by omega) (by omega) (by omega) (by omega)) ⟨by decide, by decide⟩ (rcv_Z (by omega)) hw rfl hl.1 (Nat.le_of_ble_eq_true rfl) d_B_join_166 rfl rfl ⟨Nat.zero_le _, Nat.zero_le _⟩ (fun _ H locs _ hw => ?_)
  obtain ⟨z8, ez8⟩ : ∃ g, g = up1 z7 (9 * b + 7) (z7 (9 * a + 2) * z7 (9 * c0 + 6) + z7 (9 * c0 + 2) * z7 (9 * a + 6)) := ⟨_, rfl⟩
  rw [← ez8] at hw
  have fr8 : ∀ j, j ≠ (9 * b + 7) → z8 j = z7 j := fun j h0 => by rw [ez8, up1_n _ h0]
  obtain ⟨w_37, ew_37⟩ : ∃ g : Int, g = v2 * w6 + w2 * v6 := ⟨_, rfl⟩
  have hv_38 : z8 (9 * b + 7) = w_37 := by rw [ez8, up1_s, hv_33, hv_34, hv_35, hv_36, ew_37]
  refine sy_aload_n X d_B_join_169 hl 0 rfl ?_
  refine b_get [] X hw 7 hb (by decide) (tt_of k123 rfl) d_B_join_170 ?_
  refine sy_iconst X d_B_join_173 ?_
  refine call_Vv (Xs := XC ad O P) (b := ad 0 (9 * b + 7)) (As := [.int (iI (-1))]) (rest := []) X lk_B_63 (c_W_scale l D cs ad z8 (9 * b + 7) (-1) (by omega) ⟨by decide, by decide⟩) ⟨by decide, by decide⟩ (rcv_Z (by omega)) hw rfl hl.1 (Nat.le_of_ble_eq_true rfl) d_B_join_174 rfl rfl ⟨Nat.zero_le _, Nat.zero_le _⟩ (fun _ H locs _ hw => ?_)
  obtain ⟨z9, ez9⟩ : ∃ g, g = up1 z8 (9 * b + 7) (z8 (9 * b + 7) * (-1)) := ⟨_, rfl⟩
  rw [← ez9] at hw
  have fr9 : ∀ j, j ≠ (9 * b + 7) → z9 j = z8 j := fun j h0 => by rw [ez9, up1_n _ h0]
  obtain ⟨w_39, ew_39⟩ : ∃ g : Int, g = w_37 * (-1) := ⟨_, rfl⟩
  have hv_40 : z9 (9 * b + 7) = w_39 := by rw [ez9, up1_s, hv_38, ew_39]
  refine sy_aload_n X d_B_join_177 hl 0 rfl ?_
  refine b_get [] X hw 7 hb (by decide) (tt_of k123 rfl) d_B_join_178 ?_
  refine sy_aload_n X d_B_join_181 hl 1 rfl ?_
  refine b_get [] X hw 3 ha (by decide) (tt_of k118 rfl) d_B_join_182 ?_
  refine sy_aload_n X d_B_join_185 hl 2 rfl ?_
  refine b_get [] X hw 5 hc (by decide) (tt_of k121 rfl) d_B_join_186 ?_
  refine sy_aload_n X d_B_join_189 hl 2 rfl ?_
  refine b_get [] X hw 3 hc (by decide) (tt_of k118 rfl) d_B_join_190 ?_
  refine sy_aload_n X d_B_join_193 hl 1 rfl ?_
  refine b_get [] X hw 5 ha (by decide) (tt_of k121 rfl) d_B_join_194 ?_
  have hv_41 : z9 (9 * a + 3) = v3 := (fr9 (9 * a + 3) (by omega)).trans ((fr8 (9 * a + 3) (by omega)).trans ((fr7 (9 * a + 3) (by omega)).trans ((fr6 (9 * a + 3) (by omega)).trans (hv_23))))
  have hv_42 : z9 (9 * c0 + 5) = w5 := (fr9 (9 * c0 + 5) (by omega)).trans ((fr8 (9 * c0 + 5) (by omega)).trans ((fr7 (9 * c0 + 5) (by omega)).trans ((fr6 (9 * c0 + 5) (by omega)).trans ((fr5 (9 * c0 + 5) (by omega)).trans ((fr4 (9 * c0 + 5) (by omega)).trans ((fr3 (9 * c0 + 5) (by omega)).trans ((fr2 (9 * c0 + 5) (by omega)).trans ((fr1 (9 * c0 + 5) (by omega)).trans (hw5)))))))))
  have hv_43 : z9 (9 * c0 + 3) = w3 := (fr9 (9 * c0 + 3) (by omega)).trans ((fr8 (9 * c0 + 3) (by omega)).trans ((fr7 (9 * c0 + 3) (by omega)).trans ((fr6 (9 * c0 + 3) (by omega)).trans (hv_22))))
  have hv_44 : z9 (9 * a + 5) = v5 := (fr9 (9 * a + 5) (by omega)).trans ((fr8 (9 * a + 5) (by omega)).trans ((fr7 (9 * a + 5) (by omega)).trans ((fr6 (9 * a + 5) (by omega)).trans ((fr5 (9 * a + 5) (by omega)).trans ((fr4 (9 * a + 5) (by omega)).trans ((fr3 (9 * a + 5) (by omega)).trans ((fr2 (9 * a + 5) (by omega)).trans ((fr1 (9 * a + 5) (by omega)).trans (hv5)))))))))
  refine call_Vv (Xs := XC ad O P) (b := ad 0 (9 * b + 7)) (As := [.ref (ad 0 (9 * a + 3)), .ref (ad 0 (9 * c0 + 5)), .ref (ad 0 (9 * c0 + 3)), .ref (ad 0 (9 * a + 5))]) (rest := []) X lk_B_123 (c_W_addProducts l D cs ad z9 (9 * b + 7) (9 * a + 3) (9 * c0 + 5) (9 * c0 + 3) (9 * a + 5) (by omega) (by omega) (by omega) (by omega) (by omega) (by omega) (by omega) (by omega) (by omega)) ⟨by decide, by decide⟩ (rcv_Z (by omega)) hw rfl hl.1 (Nat.le_of_ble_eq_true rfl) d_B_join_197 rfl rfl ⟨Nat.zero_le _, Nat.zero_le _⟩ (fun _ H locs _ hw => ?_)
  obtain ⟨z10, ez10⟩ : ∃ g, g = up1 z9 (9 * b + 7) (z9 (9 * b + 7) + z9 (9 * a + 3) * z9 (9 * c0 + 5) + z9 (9 * c0 + 3) * z9 (9 * a + 5)) := ⟨_, rfl⟩
  rw [← ez10] at hw
  have fr10 : ∀ j, j ≠ (9 * b + 7) → z10 j = z9 j := fun j h0 => by rw [ez10, up1_n _ h0]
  obtain ⟨w_45, ew_45⟩ : ∃ g : Int, g = w_39 + v3 * w5 + w3 * v5 := ⟨_, rfl⟩
  have hv_46 : z10 (9 * b + 7) = w_45 := by rw [ez10, up1_s, hv_40, hv_41, hv_42, hv_43, hv_44, ew_45]
  refine sy_aload_n X d_B_join_200 hl 0 rfl ?_
  refine b_get [] X hw 7 hb (by decide) (tt_of k123 rfl) d_B_join_201 ?_
  refine sy_aload_n X d_B_join_204 hl 1 rfl ?_
  refine b_get [] X hw 7 ha (by decide) (tt_of k123 rfl) d_B_join_205 ?_
  refine sy_aload_n X d_B_join_208 hl 2 rfl ?_
  refine b_get [] X hw 0 hc (by decide) (tt_of k115 rfl) d_B_join_209 ?_
  refine sy_aload_n X d_B_join_212 hl 2 rfl ?_
  refine b_get [] X hw 7 hc (by decide) (tt_of k123 rfl) d_B_join_213 ?_
  refine sy_aload_n X d_B_join_216 hl 1 rfl ?_
  refine b_get [] X hw 0 ha (by decide) (tt_of k115 rfl) d_B_join_217 ?_
  have hv_47 : z10 (9 * a + 7) = v7 := (fr10 (9 * a + 7) (by omega)).trans ((fr9 (9 * a + 7) (by omega)).trans ((fr8 (9 * a + 7) (by omega)).trans ((fr7 (9 * a + 7) (by omega)).trans ((fr6 (9 * a + 7) (by omega)).trans ((fr5 (9 * a + 7) (by omega)).trans ((fr4 (9 * a + 7) (by omega)).trans ((fr3 (9 * a + 7) (by omega)).trans ((fr2 (9 * a + 7) (by omega)).trans ((fr1 (9 * a + 7) (by omega)).trans (hv7))))))))))
  have hv_48 : z10 (9 * c0 + 0) = w0 := (fr10 (9 * c0 + 0) (by omega)).trans ((fr9 (9 * c0 + 0) (by omega)).trans ((fr8 (9 * c0 + 0) (by omega)).trans ((fr7 (9 * c0 + 0) (by omega)).trans (hv_28))))
  have hv_49 : z10 (9 * c0 + 7) = w7 := (fr10 (9 * c0 + 7) (by omega)).trans ((fr9 (9 * c0 + 7) (by omega)).trans ((fr8 (9 * c0 + 7) (by omega)).trans ((fr7 (9 * c0 + 7) (by omega)).trans ((fr6 (9 * c0 + 7) (by omega)).trans ((fr5 (9 * c0 + 7) (by omega)).trans ((fr4 (9 * c0 + 7) (by omega)).trans ((fr3 (9 * c0 + 7) (by omega)).trans ((fr2 (9 * c0 + 7) (by omega)).trans ((fr1 (9 * c0 + 7) (by omega)).trans (hw7))))))))))
  have hv_50 : z10 (9 * a + 0) = v0 := (fr10 (9 * a + 0) (by omega)).trans ((fr9 (9 * a + 0) (by omega)).trans ((fr8 (9 * a + 0) (by omega)).trans ((fr7 (9 * a + 0) (by omega)).trans (hv_30))))
  refine call_Vv (Xs := XC ad O P) (b := ad 0 (9 * b + 7)) (As := [.ref (ad 0 (9 * a + 7)), .ref (ad 0 (9 * c0 + 0)), .ref (ad 0 (9 * c0 + 7)), .ref (ad 0 (9 * a + 0))]) (rest := []) X lk_B_123 (c_W_addProducts l D cs ad z10 (9 * b + 7) (9 * a + 7) (9 * c0 + 0) (9 * c0 + 7) (9 * a + 0) (by omega) (by omega) (by omega) (by omega) (by omega) (by omega) (by omega) (by omega) (by omega)) ⟨by decide, by decide⟩ (rcv_Z (by omega)) hw rfl hl.1 (Nat.le_of_ble_eq_true rfl) d_B_join_220 rfl rfl ⟨Nat.zero_le _, Nat.zero_le _⟩ (fun _ H locs _ hw => ?_)
  obtain ⟨z11, ez11⟩ : ∃ g, g = up1 z10 (9 * b + 7) (z10 (9 * b + 7) + z10 (9 * a + 7) * z10 (9 * c0 + 0) + z10 (9 * c0 + 7) * z10 (9 * a + 0)) := ⟨_, rfl⟩
  rw [← ez11] at hw
  have fr11 : ∀ j, j ≠ (9 * b + 7) → z11 j = z10 j := fun j h0 => by rw [ez11, up1_n _ h0]
  obtain ⟨w_51, ew_51⟩ : ∃ g : Int, g = w_45 + v7 * w0 + w7 * v0 := ⟨_, rfl⟩
  have hv_52 : z11 (9 * b + 7) = w_51 := by rw [ez11, up1_s, hv_46, hv_47, hv_48, hv_49, hv_50, ew_51]
  refine sy_aload_n X d_B_join_223 hl 0 rfl ?_
  refine b_get [] X hw 8 hb (by decide) (tt_of k125 rfl) d_B_join_224 ?_
  refine sy_aload_n X d_B_join_227 hl 1 rfl ?_
  refine b_get [] X hw 2 ha (by decide) (tt_of k117 rfl) d_B_join_228 ?_
  refine sy_aload_n X d_B_join_231 hl 2 rfl ?_
  refine b_get [] X hw 5 hc (by decide) (tt_of k121 rfl) d_B_join_232 ?_
  refine sy_aload_n X d_B_join_235 hl 2 rfl ?_
  refine b_get [] X hw 2 hc (by decide) (tt_of k117 rfl) d_B_join_236 ?_
  refine sy_aload_n X d_B_join_239 hl 1 rfl ?_
  refine b_get [] X hw 5 ha (by decide) (tt_of k121 rfl) d_B_join_240 ?_
  have hv_53 : z11 (9 * a + 2) = v2 := (fr11 (9 * a + 2) (by omega)).trans ((fr10 (9 * a + 2) (by omega)).trans ((fr9 (9 * a + 2) (by omega)).trans ((fr8 (9 * a + 2) (by omega)).trans (hv_33))))
  have hv_54 : z11 (9 * c0 + 5) = w5 := (fr11 (9 * c0 + 5) (by omega)).trans ((fr10 (9 * c0 + 5) (by omega)).trans (hv_42))
  have hv_55 : z11 (9 * c0 + 2) = w2 := (fr11 (9 * c0 + 2) (by omega)).trans ((fr10 (9 * c0 + 2) (by omega)).trans ((fr9 (9 * c0 + 2) (by omega)).trans ((fr8 (9 * c0 + 2) (by omega)).trans (hv_35))))
  have hv_56 : z11 (9 * a + 5) = v5 := (fr11 (9 * a + 5) (by omega)).trans ((fr10 (9 * a + 5) (by omega)).trans (hv_44))
  refine call_Vv (Xs := XC ad O P) (b := ad 0 (9 * b + 8)) (As := [.ref (ad 0 (9 * a + 2)), .ref (ad 0 (9 * c0 + 5)), .ref (ad 0 (9 * c0 + 2)), .ref (ad 0 (9 * a + 5))]) (rest := []) X lk_B_119 (c_W_setProducts l D cs ad z11 (9 * b + 8) (9 * a + 2) (9 * c0 + 5) (9 * c0 + 2) (9 * a + 5) (by omega) (by omega) (by omega) (by omega) (by omega) (by omega) (by omega) (by omega) (by omega)) ⟨by decide, by decide⟩ (rcv_Z (by omega)) hw rfl hl.1 (Nat.le_of_ble_eq_true rfl) d_B_join_243 rfl rfl ⟨Nat.zero_le _, Nat.zero_le _⟩ (fun _ H locs _ hw => ?_)
  obtain ⟨z12, ez12⟩ : ∃ g, g = up1 z11 (9 * b + 8) (z11 (9 * a + 2) * z11 (9 * c0 + 5) + z11 (9 * c0 + 2) * z11 (9 * a + 5)) := ⟨_, rfl⟩
  rw [← ez12] at hw
  have fr12 : ∀ j, j ≠ (9 * b + 8) → z12 j = z11 j := fun j h0 => by rw [ez12, up1_n _ h0]
  obtain ⟨w_57, ew_57⟩ : ∃ g : Int, g = v2 * w5 + w2 * v5 := ⟨_, rfl⟩
  have hv_58 : z12 (9 * b + 8) = w_57 := by rw [ez12, up1_s, hv_53, hv_54, hv_55, hv_56, ew_57]
  refine sy_aload_n X d_B_join_246 hl 0 rfl ?_
  refine b_get [] X hw 8 hb (by decide) (tt_of k125 rfl) d_B_join_247 ?_
  refine sy_iconst X d_B_join_250 ?_
  refine call_Vv (Xs := XC ad O P) (b := ad 0 (9 * b + 8)) (As := [.int (iI (-1))]) (rest := []) X lk_B_63 (c_W_scale l D cs ad z12 (9 * b + 8) (-1) (by omega) ⟨by decide, by decide⟩) ⟨by decide, by decide⟩ (rcv_Z (by omega)) hw rfl hl.1 (Nat.le_of_ble_eq_true rfl) d_B_join_251 rfl rfl ⟨Nat.zero_le _, Nat.zero_le _⟩ (fun _ H locs _ hw => ?_)
  obtain ⟨z13, ez13⟩ : ∃ g, g = up1 z12 (9 * b + 8) (z12 (9 * b + 8) * (-1)) := ⟨_, rfl⟩
  rw [← ez13] at hw
  have fr13 : ∀ j, j ≠ (9 * b + 8) → z13 j = z12 j := fun j h0 => by rw [ez13, up1_n _ h0]
  obtain ⟨w_59, ew_59⟩ : ∃ g : Int, g = w_57 * (-1) := ⟨_, rfl⟩
  have hv_60 : z13 (9 * b + 8) = w_59 := by rw [ez13, up1_s, hv_58, ew_59]
  refine sy_aload_n X d_B_join_254 hl 0 rfl ?_
  refine b_get [] X hw 8 hb (by decide) (tt_of k125 rfl) d_B_join_255 ?_
  refine sy_aload_n X d_B_join_258 hl 1 rfl ?_
  refine b_get [] X hw 1 ha (by decide) (tt_of k116 rfl) d_B_join_259 ?_
  refine sy_aload_n X d_B_join_262 hl 2 rfl ?_
  refine b_get [] X hw 6 hc (by decide) (tt_of k122 rfl) d_B_join_263 ?_
  refine sy_aload_n X d_B_join_266 hl 2 rfl ?_
  refine b_get [] X hw 1 hc (by decide) (tt_of k116 rfl) d_B_join_267 ?_
  refine sy_aload_n X d_B_join_270 hl 1 rfl ?_
  refine b_get [] X hw 6 ha (by decide) (tt_of k122 rfl) d_B_join_271 ?_
  have hv_61 : z13 (9 * a + 1) = v1 := (fr13 (9 * a + 1) (by omega)).trans ((fr12 (9 * a + 1) (by omega)).trans ((fr11 (9 * a + 1) (by omega)).trans ((fr10 (9 * a + 1) (by omega)).trans ((fr9 (9 * a + 1) (by omega)).trans ((fr8 (9 * a + 1) (by omega)).trans ((fr7 (9 * a + 1) (by omega)).trans ((fr6 (9 * a + 1) (by omega)).trans (hv_21))))))))
  have hv_62 : z13 (9 * c0 + 6) = w6 := (fr13 (9 * c0 + 6) (by omega)).trans ((fr12 (9 * c0 + 6) (by omega)).trans ((fr11 (9 * c0 + 6) (by omega)).trans ((fr10 (9 * c0 + 6) (by omega)).trans ((fr9 (9 * c0 + 6) (by omega)).trans ((fr8 (9 * c0 + 6) (by omega)).trans (hv_34))))))
  have hv_63 : z13 (9 * c0 + 1) = w1 := (fr13 (9 * c0 + 1) (by omega)).trans ((fr12 (9 * c0 + 1) (by omega)).trans ((fr11 (9 * c0 + 1) (by omega)).trans ((fr10 (9 * c0 + 1) (by omega)).trans ((fr9 (9 * c0 + 1) (by omega)).trans ((fr8 (9 * c0 + 1) (by omega)).trans ((fr7 (9 * c0 + 1) (by omega)).trans ((fr6 (9 * c0 + 1) (by omega)).trans (hv_24))))))))
  have hv_64 : z13 (9 * a + 6) = v6 := (fr13 (9 * a + 6) (by omega)).trans ((fr12 (9 * a + 6) (by omega)).trans ((fr11 (9 * a + 6) (by omega)).trans ((fr10 (9 * a + 6) (by omega)).trans ((fr9 (9 * a + 6) (by omega)).trans ((fr8 (9 * a + 6) (by omega)).trans (hv_36))))))
  refine call_Vv (Xs := XC ad O P) (b := ad 0 (9 * b + 8)) (As := [.ref (ad 0 (9 * a + 1)), .ref (ad 0 (9 * c0 + 6)), .ref (ad 0 (9 * c0 + 1)), .ref (ad 0 (9 * a + 6))]) (rest := []) X lk_B_123 (c_W_addProducts l D cs ad z13 (9 * b + 8) (9 * a + 1) (9 * c0 + 6) (9 * c0 + 1) (9 * a + 6) (by omega) (by omega) (by omega) (by omega) (by omega) (by omega) (by omega) (by omega) (by omega)) ⟨by decide, by decide⟩ (rcv_Z (by omega)) hw rfl hl.1 (Nat.le_of_ble_eq_true rfl) d_B_join_274 rfl rfl ⟨Nat.zero_le _, Nat.zero_le _⟩ (fun _ H locs _ hw => ?_)
  obtain ⟨z14, ez14⟩ : ∃ g, g = up1 z13 (9 * b + 8) (z13 (9 * b + 8) + z13 (9 * a + 1) * z13 (9 * c0 + 6) + z13 (9 * c0 + 1) * z13 (9 * a + 6)) := ⟨_, rfl⟩
  rw [← ez14] at hw
  have fr14 : ∀ j, j ≠ (9 * b + 8) → z14 j = z13 j := fun j h0 => by rw [ez14, up1_n _ h0]
  obtain ⟨w_65, ew_65⟩ : ∃ g : Int, g = w_59 + v1 * w6 + w1 * v6 := ⟨_, rfl⟩
  have hv_66 : z14 (9 * b + 8) = w_65 := by rw [ez14, up1_s, hv_60, hv_61, hv_62, hv_63, hv_64, ew_65]
  refine sy_aload_n X d_B_join_277 hl 0 rfl ?_
  refine b_get [] X hw 8 hb (by decide) (tt_of k125 rfl) d_B_join_278 ?_
  refine sy_aload_n X d_B_join_281 hl 1 rfl ?_
  refine b_get [] X hw 8 ha (by decide) (tt_of k125 rfl) d_B_join_282 ?_
  refine sy_aload_n X d_B_join_285 hl 2 rfl ?_
  refine b_get [] X hw 0 hc (by decide) (tt_of k115 rfl) d_B_join_286 ?_
  refine sy_aload_n X d_B_join_289 hl 2 rfl ?_
  refine b_get [] X hw 8 hc (by decide) (tt_of k125 rfl) d_B_join_290 ?_
  refine sy_aload_n X d_B_join_293 hl 1 rfl ?_
  refine b_get [] X hw 0 ha (by decide) (tt_of k115 rfl) d_B_join_294 ?_
  have hv_67 : z14 (9 * a + 8) = v8 := (fr14 (9 * a + 8) (by omega)).trans ((fr13 (9 * a + 8) (by omega)).trans ((fr12 (9 * a + 8) (by omega)).trans ((fr11 (9 * a + 8) (by omega)).trans ((fr10 (9 * a + 8) (by omega)).trans ((fr9 (9 * a + 8) (by omega)).trans ((fr8 (9 * a + 8) (by omega)).trans ((fr7 (9 * a + 8) (by omega)).trans ((fr6 (9 * a + 8) (by omega)).trans ((fr5 (9 * a + 8) (by omega)).trans ((fr4 (9 * a + 8) (by omega)).trans ((fr3 (9 * a + 8) (by omega)).trans ((fr2 (9 * a + 8) (by omega)).trans ((fr1 (9 * a + 8) (by omega)).trans (hv8))))))))))))))
  have hv_68 : z14 (9 * c0 + 0) = w0 := (fr14 (9 * c0 + 0) (by omega)).trans ((fr13 (9 * c0 + 0) (by omega)).trans ((fr12 (9 * c0 + 0) (by omega)).trans ((fr11 (9 * c0 + 0) (by omega)).trans (hv_48))))
  have hv_69 : z14 (9 * c0 + 8) = w8 := (fr14 (9 * c0 + 8) (by omega)).trans ((fr13 (9 * c0 + 8) (by omega)).trans ((fr12 (9 * c0 + 8) (by omega)).trans ((fr11 (9 * c0 + 8) (by omega)).trans ((fr10 (9 * c0 + 8) (by omega)).trans ((fr9 (9 * c0 + 8) (by omega)).trans ((fr8 (9 * c0 + 8) (by omega)).trans ((fr7 (9 * c0 + 8) (by omega)).trans ((fr6 (9 * c0 + 8) (by omega)).trans ((fr5 (9 * c0 + 8) (by omega)).trans ((fr4 (9 * c0 + 8) (by omega)).trans ((fr3 (9 * c0 + 8) (by omega)).trans ((fr2 (9 * c0 + 8) (by omega)).trans ((fr1 (9 * c0 + 8) (by omega)).trans (hw8))))))))))))))
  have hv_70 : z14 (9 * a + 0) = v0 := (fr14 (9 * a + 0) (by omega)).trans ((fr13 (9 * a + 0) (by omega)).trans ((fr12 (9 * a + 0) (by omega)).trans ((fr11 (9 * a + 0) (by omega)).trans (hv_50))))
  refine call_Vv (Xs := XC ad O P) (b := ad 0 (9 * b + 8)) (As := [.ref (ad 0 (9 * a + 8)), .ref (ad 0 (9 * c0 + 0)), .ref (ad 0 (9 * c0 + 8)), .ref (ad 0 (9 * a + 0))]) (rest := []) X lk_B_123 (c_W_addProducts l D cs ad z14 (9 * b + 8) (9 * a + 8) (9 * c0 + 0) (9 * c0 + 8) (9 * a + 0) (by omega) (by omega) (by omega) (by omega) (by omega) (by omega) (by omega) (by omega) (by omega)) ⟨by decide, by decide⟩ (rcv_Z (by omega)) hw rfl hl.1 (Nat.le_of_ble_eq_true rfl) d_B_join_297 rfl rfl ⟨Nat.zero_le _, Nat.zero_le _⟩ (fun _ H locs _ hw => ?_)
  obtain ⟨z15, ez15⟩ : ∃ g, g = up1 z14 (9 * b + 8) (z14 (9 * b + 8) + z14 (9 * a + 8) * z14 (9 * c0 + 0) + z14 (9 * c0 + 8) * z14 (9 * a + 0)) := ⟨_, rfl⟩
  rw [← ez15] at hw
  have fr15 : ∀ j, j ≠ (9 * b + 8) → z15 j = z14 j := fun j h0 => by rw [ez15, up1_n _ h0]
  obtain ⟨w_71, ew_71⟩ : ∃ g : Int, g = w_65 + v8 * w0 + w8 * v0 := ⟨_, rfl⟩
  have hv_72 : z15 (9 * b + 8) = w_71 := by rw [ez15, up1_s, hv_66, hv_67, hv_68, hv_69, hv_70, ew_71]
  have hv_73 : z15 (9 * b + 0) = u0 := (fr15 (9 * b + 0) (by omega)).trans ((fr14 (9 * b + 0) (by omega)).trans ((fr13 (9 * b + 0) (by omega)).trans ((fr12 (9 * b + 0) (by omega)).trans ((fr11 (9 * b + 0) (by omega)).trans ((fr10 (9 * b + 0) (by omega)).trans ((fr9 (9 * b + 0) (by omega)).trans ((fr8 (9 * b + 0) (by omega)).trans ((fr7 (9 * b + 0) (by omega)).trans ((fr6 (9 * b + 0) (by omega)).trans ((fr5 (9 * b + 0) (by omega)).trans ((fr4 (9 * b + 0) (by omega)).trans ((fr3 (9 * b + 0) (by omega)).trans ((fr2 (9 * b + 0) (by omega)).trans ((fr1 (9 * b + 0) (by omega)).trans (hu0)))))))))))))))
  have hv_74 : z15 (9 * b + 1) = w_1 := (fr15 (9 * b + 1) (by omega)).trans ((fr14 (9 * b + 1) (by omega)).trans ((fr13 (9 * b + 1) (by omega)).trans ((fr12 (9 * b + 1) (by omega)).trans ((fr11 (9 * b + 1) (by omega)).trans ((fr10 (9 * b + 1) (by omega)).trans ((fr9 (9 * b + 1) (by omega)).trans ((fr8 (9 * b + 1) (by omega)).trans ((fr7 (9 * b + 1) (by omega)).trans ((fr6 (9 * b + 1) (by omega)).trans ((fr5 (9 * b + 1) (by omega)).trans ((fr4 (9 * b + 1) (by omega)).trans ((fr3 (9 * b + 1) (by omega)).trans ((fr2 (9 * b + 1) (by omega)).trans (hv_2))))))))))))))
  have hv_75 : z15 (9 * b + 2) = w_7 := (fr15 (9 * b + 2) (by omega)).trans ((fr14 (9 * b + 2) (by omega)).trans ((fr13 (9 * b + 2) (by omega)).trans ((fr12 (9 * b + 2) (by omega)).trans ((fr11 (9 * b + 2) (by omega)).trans ((fr10 (9 * b + 2) (by omega)).trans ((fr9 (9 * b + 2) (by omega)).trans ((fr8 (9 * b + 2) (by omega)).trans ((fr7 (9 * b + 2) (by omega)).trans ((fr6 (9 * b + 2) (by omega)).trans ((fr5 (9 * b + 2) (by omega)).trans ((fr4 (9 * b + 2) (by omega)).trans ((fr3 (9 * b + 2) (by omega)).trans (hv_8)))))))))))))
  have hv_76 : z15 (9 * b + 3) = w_13 := (fr15 (9 * b + 3) (by omega)).trans ((fr14 (9 * b + 3) (by omega)).trans ((fr13 (9 * b + 3) (by omega)).trans ((fr12 (9 * b + 3) (by omega)).trans ((fr11 (9 * b + 3) (by omega)).trans ((fr10 (9 * b + 3) (by omega)).trans ((fr9 (9 * b + 3) (by omega)).trans ((fr8 (9 * b + 3) (by omega)).trans ((fr7 (9 * b + 3) (by omega)).trans ((fr6 (9 * b + 3) (by omega)).trans ((fr5 (9 * b + 3) (by omega)).trans ((fr4 (9 * b + 3) (by omega)).trans (hv_14))))))))))))
  have hv_77 : z15 (9 * b + 4) = w_31 := (fr15 (9 * b + 4) (by omega)).trans ((fr14 (9 * b + 4) (by omega)).trans ((fr13 (9 * b + 4) (by omega)).trans ((fr12 (9 * b + 4) (by omega)).trans ((fr11 (9 * b + 4) (by omega)).trans ((fr10 (9 * b + 4) (by omega)).trans ((fr9 (9 * b + 4) (by omega)).trans ((fr8 (9 * b + 4) (by omega)).trans (hv_32))))))))
  have hv_78 : z15 (9 * b + 5) = u5 := (fr15 (9 * b + 5) (by omega)).trans ((fr14 (9 * b + 5) (by omega)).trans ((fr13 (9 * b + 5) (by omega)).trans ((fr12 (9 * b + 5) (by omega)).trans ((fr11 (9 * b + 5) (by omega)).trans ((fr10 (9 * b + 5) (by omega)).trans ((fr9 (9 * b + 5) (by omega)).trans ((fr8 (9 * b + 5) (by omega)).trans ((fr7 (9 * b + 5) (by omega)).trans ((fr6 (9 * b + 5) (by omega)).trans ((fr5 (9 * b + 5) (by omega)).trans ((fr4 (9 * b + 5) (by omega)).trans ((fr3 (9 * b + 5) (by omega)).trans ((fr2 (9 * b + 5) (by omega)).trans ((fr1 (9 * b + 5) (by omega)).trans (hu5)))))))))))))))
  have hv_79 : z15 (9 * b + 6) = u6 := (fr15 (9 * b + 6) (by omega)).trans ((fr14 (9 * b + 6) (by omega)).trans ((fr13 (9 * b + 6) (by omega)).trans ((fr12 (9 * b + 6) (by omega)).trans ((fr11 (9 * b + 6) (by omega)).trans ((fr10 (9 * b + 6) (by omega)).trans ((fr9 (9 * b + 6) (by omega)).trans ((fr8 (9 * b + 6) (by omega)).trans ((fr7 (9 * b + 6) (by omega)).trans ((fr6 (9 * b + 6) (by omega)).trans ((fr5 (9 * b + 6) (by omega)).trans ((fr4 (9 * b + 6) (by omega)).trans ((fr3 (9 * b + 6) (by omega)).trans ((fr2 (9 * b + 6) (by omega)).trans ((fr1 (9 * b + 6) (by omega)).trans (hu6)))))))))))))))
  have hv_80 : z15 (9 * b + 7) = w_51 := (fr15 (9 * b + 7) (by omega)).trans ((fr14 (9 * b + 7) (by omega)).trans ((fr13 (9 * b + 7) (by omega)).trans ((fr12 (9 * b + 7) (by omega)).trans (hv_52))))
  have hzf : z15 = setB z b (joinV (blB z b) (blB z a) (blB z c0)) := by
    funext j
    by_cases hj : 9 * b ≤ j ∧ j < 9 * b + 9
    · obtain ⟨i9, hi9⟩ : ∃ i9, j = 9 * b + i9 ∧ i9 < 9 := ⟨j - 9 * b, by omega⟩
      obtain ⟨hij, hi9⟩ := hi9
      subst hij
      rw [setB_in hi9]
      have h9 : i9 = 0 ∨ i9 = 1 ∨ i9 = 2 ∨ i9 = 3 ∨ i9 = 4 ∨ i9 = 5 ∨ i9 = 6 ∨ i9 = 7 ∨ i9 = 8 := by omega
      rcases h9 with e9 | e9 | e9 | e9 | e9 | e9 | e9 | e9 | e9 <;> subst e9
      · rw [hv_73]; simp only [joinV, blB, hu0, hu1, hu2, hu3, hu4, hu5, hu6, hu7, hu8, hv0, hv1, hv2, hv3, hv4, hv5, hv6, hv7, hv8, hw0, hw1, hw2, hw3, hw4, hw5, hw6, hw7, hw8, ew_71, ew_65, ew_59, ew_57, ew_51, ew_45, ew_39, ew_37, ew_31, ew_25, ew_19, ew_17, ew_13, ew_7, ew_1]
      · rw [hv_74]; simp only [joinV, blB, hu0, hu1, hu2, hu3, hu4, hu5, hu6, hu7, hu8, hv0, hv1, hv2, hv3, hv4, hv5, hv6, hv7, hv8, hw0, hw1, hw2, hw3, hw4, hw5, hw6, hw7, hw8, ew_71, ew_65, ew_59, ew_57, ew_51, ew_45, ew_39, ew_37, ew_31, ew_25, ew_19, ew_17, ew_13, ew_7, ew_1]
      · rw [hv_75]; simp only [joinV, blB, hu0, hu1, hu2, hu3, hu4, hu5, hu6, hu7, hu8, hv0, hv1, hv2, hv3, hv4, hv5, hv6, hv7, hv8, hw0, hw1, hw2, hw3, hw4, hw5, hw6, hw7, hw8, ew_71, ew_65, ew_59, ew_57, ew_51, ew_45, ew_39, ew_37, ew_31, ew_25, ew_19, ew_17, ew_13, ew_7, ew_1]
      · rw [hv_76]; simp only [joinV, blB, hu0, hu1, hu2, hu3, hu4, hu5, hu6, hu7, hu8, hv0, hv1, hv2, hv3, hv4, hv5, hv6, hv7, hv8, hw0, hw1, hw2, hw3, hw4, hw5, hw6, hw7, hw8, ew_71, ew_65, ew_59, ew_57, ew_51, ew_45, ew_39, ew_37, ew_31, ew_25, ew_19, ew_17, ew_13, ew_7, ew_1]
      · rw [hv_77]; simp only [joinV, blB, hu0, hu1, hu2, hu3, hu4, hu5, hu6, hu7, hu8, hv0, hv1, hv2, hv3, hv4, hv5, hv6, hv7, hv8, hw0, hw1, hw2, hw3, hw4, hw5, hw6, hw7, hw8, ew_71, ew_65, ew_59, ew_57, ew_51, ew_45, ew_39, ew_37, ew_31, ew_25, ew_19, ew_17, ew_13, ew_7, ew_1]
      · rw [hv_78]; simp only [joinV, blB, hu0, hu1, hu2, hu3, hu4, hu5, hu6, hu7, hu8, hv0, hv1, hv2, hv3, hv4, hv5, hv6, hv7, hv8, hw0, hw1, hw2, hw3, hw4, hw5, hw6, hw7, hw8, ew_71, ew_65, ew_59, ew_57, ew_51, ew_45, ew_39, ew_37, ew_31, ew_25, ew_19, ew_17, ew_13, ew_7, ew_1]
      · rw [hv_79]; simp only [joinV, blB, hu0, hu1, hu2, hu3, hu4, hu5, hu6, hu7, hu8, hv0, hv1, hv2, hv3, hv4, hv5, hv6, hv7, hv8, hw0, hw1, hw2, hw3, hw4, hw5, hw6, hw7, hw8, ew_71, ew_65, ew_59, ew_57, ew_51, ew_45, ew_39, ew_37, ew_31, ew_25, ew_19, ew_17, ew_13, ew_7, ew_1]
      · rw [hv_80]; simp only [joinV, blB, hu0, hu1, hu2, hu3, hu4, hu5, hu6, hu7, hu8, hv0, hv1, hv2, hv3, hv4, hv5, hv6, hv7, hv8, hw0, hw1, hw2, hw3, hw4, hw5, hw6, hw7, hw8, ew_71, ew_65, ew_59, ew_57, ew_51, ew_45, ew_39, ew_37, ew_31, ew_25, ew_19, ew_17, ew_13, ew_7, ew_1]
      · rw [hv_72]; simp only [joinV, blB, hu0, hu1, hu2, hu3, hu4, hu5, hu6, hu7, hu8, hv0, hv1, hv2, hv3, hv4, hv5, hv6, hv7, hv8, hw0, hw1, hw2, hw3, hw4, hw5, hw6, hw7, hw8, ew_71, ew_65, ew_59, ew_57, ew_51, ew_45, ew_39, ew_37, ew_31, ew_25, ew_19, ew_17, ew_13, ew_7, ew_1]
    · rw [setB_out hj]; exact (fr15 j (by omega)).trans ((fr14 j (by omega)).trans ((fr13 j (by omega)).trans ((fr12 j (by omega)).trans ((fr11 j (by omega)).trans ((fr10 j (by omega)).trans ((fr9 j (by omega)).trans ((fr8 j (by omega)).trans ((fr7 j (by omega)).trans ((fr6 j (by omega)).trans ((fr5 j (by omega)).trans ((fr4 j (by omega)).trans ((fr3 j (by omega)).trans ((fr2 j (by omega)).trans ((fr1 j (by omega)).trans (rfl)))))))))))))))
  rw [hzf] at hw
  exact kr () _ _ _ _ d_B_join_300 hw trivial
