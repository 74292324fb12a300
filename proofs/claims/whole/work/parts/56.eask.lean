theorem red_odd {A B A0 B0 : Int} {t1 t2 : Nat} (ho : A % 2 = 1 ∨ B % 2 = 1) (ha : 0 < A0 ∧ A0 % 2 = 1) (hb : 0 < B0 ∧ B0 % 2 = 1) (hA : A = A0 * 2 ^ t1) (hB : B = B0 * 2 ^ t2) : ∃ X Y : Int, A = X * ((Int.gcd A0 B0 : Nat) : Int) ∧ B = Y * ((Int.gcd A0 B0 : Nat) : Int) ∧ 0 < X ∧ 0 < Y ∧ Int.gcd X Y = 1 ∧ (0 : Int) < ((Int.gcd A0 B0 : Nat) : Int) ∧ ((Int.gcd A0 B0 : Nat) : Int) % 2 = 1 := by
  obtain ⟨a, rfl⟩ := nat_of ha.1
  obtain ⟨b, rfl⟩ := nat_of hb.1
  have hA' : A = ((a * 2 ^ t1 : Nat) : Int) := by rw [hA, Int.natCast_mul, pw2]
  have hB' : B = ((b * 2 ^ t2 : Nat) : Int) := by rw [hB, Int.natCast_mul, pw2]
  have hg := gcd_odd (A0 := a) (B0 := b) (s := t1) (u := t2) (by omega) (by omega) (by omega)
  rw [Int.gcd_natCast_natCast]
  have g0 : 0 < Nat.gcd a b := Nat.gcd_pos_of_pos_left b (by omega)
  obtain ⟨c, hc⟩ : Nat.gcd a b ∣ a * 2 ^ t1 := Nat.dvd_trans (Nat.gcd_dvd_left a b) (Nat.dvd_mul_right _ _)
  obtain ⟨d, hd⟩ : Nat.gcd a b ∣ b * 2 ^ t2 := Nat.dvd_trans (Nat.gcd_dvd_right a b) (Nat.dvd_mul_right _ _)
  obtain ⟨f, hf⟩ := Nat.gcd_dvd_left a b
  have hp1 : 0 < a * 2 ^ t1 := Nat.mul_pos (by omega) (Nat.pow_pos (by decide))
  have hp2 : 0 < b * 2 ^ t2 := Nat.mul_pos (by omega) (Nat.pow_pos (by decide))
  have hodd : Nat.gcd a b % 2 = 1 := by
    rcases Nat.mod_two_eq_zero_or_one (Nat.gcd a b) with h | h
    · have h2 : a % 2 = 0 := by rw [hf, Nat.mul_mod, h, Nat.zero_mul]
      omega
    · exact h
  have hco : Nat.gcd c d = 1 := by
    rw [hc, hd, Nat.gcd_mul_left] at hg
    have h5 : Nat.gcd a b * Nat.gcd c d = Nat.gcd a b * 1 := by rw [Nat.mul_one]; exact hg
    exact Nat.eq_of_mul_eq_mul_left g0 h5
  refine ⟨(c : Int), (d : Int), ?_, ?_, ?_, ?_, ?_, ?_, ?_⟩
  · rw [hA', hc, Nat.mul_comm, Int.natCast_mul]
  · rw [hB', hd, Nat.mul_comm, Int.natCast_mul]
  · have : c ≠ 0 := fun h => by rw [h, Nat.mul_zero] at hc; omega
    omega
  · have : d ≠ 0 := fun h => by rw [h, Nat.mul_zero] at hd; omega
    omega
  · rw [Int.gcd_natCast_natCast]; exact hco
  · omega
  · omega
theorem lw_zero {b : Int} (h : 0 < b) : lwN 0 b = 0 ∧ lwD 0 b = 1 := by
  unfold lwN lwD
  rw [Int.natAbs_zero, Nat.gcd_zero_right, Int.zero_ediv]
  refine ⟨rfl, ?_⟩
  have e : ((b.natAbs : Nat) : Int) = b := by omega
  rw [e, Int.ediv_self (by omega)]
theorem sg_abs {x : Int} (h : x < 0) : ((x.natAbs : Nat) : Int) = x * (-1) := by omega
def N127 (a b : Int) : Prop := -85070591730234615865843651857942052864 ≤ a ∧ a ≤ 85070591730234615865843651857942052864 ∧ 0 < b ∧ b ≤ 85070591730234615865843651857942052864
theorem n127_c {a b p0 q0 : Int} (h : N127 a b) (hp : R31 p0) (hq : R31 q0) : R159 (a * q0 + b * p0 * (-1)) := by
  have h1 := mul_rng (x := a) (y := q0) (a := 85070591730234615865843651857942052864) (b := 2147483648) ⟨h.1, h.2.1⟩ ⟨hq.1, by have := hq.2; omega⟩
  have h2 := mul_rng (x := b - 1) (y := p0) (a := 85070591730234615865843651857942052863) (b := 2147483648) ⟨by have := h.2.2.1; omega, by have := h.2.2.2; omega⟩ ⟨hp.1, by have := hp.2; omega⟩
  have h3 : (b - 1) * p0 = b * p0 - p0 := by rw [Int.sub_mul, Int.one_mul]
  have := hp.1
  have := hp.2
  generalize b * p0 = w1 at *
  generalize a * q0 = w2 at *
  unfold R159
  omega
theorem BL_abs {x : Int} {r : Nat} (h : BL ((x.natAbs : Nat) : Int) r) : BL x r := by
  unfold BL at *; rw [Int.natAbs_natCast] at h; exact h
set_option maxRecDepth 100000 in
set_option maxHeartbeats 4000000 in
theorem c_E_reduce (l : Launch) (D : va_G) (cs : Nat → ClassId) (ad : Nat → Nat → Nat) (E O P : Nat → Nat → Int) (z : Nat → Int) (h1 : R159 (z 117)) (h2 : U160 (z 118)) (h4 : 0 < z 118) : Ct (S := Nat → Int) l D (tyL cs) y_E_reduce b_E_reduce 3 none (rm 4) [.ref (ad 5 0)] (wE ad cs E O P z) (fun z1 => KeepZ z z1 ∧ (z1 117 = (((lwN (z 117) (z 118)).natAbs : Nat) : Int) ∧ z1 118 = lwD (z 117) (z 118)) ∧ (U160 (z1 117) ∧ U160 (z1 118))) (fun _ => none) (fun z1 => wE ad cs E O P z1) := by
  refine Ct.introV (by decide) (Nat.le_of_ble_eq_true rfl) (fun _ => rfl) ?_
  intro p e s m below meth c A args Q H locs X hnm hw kr ls hl
  have X : CX D (tyL cs) R_E b_E_reduce 3 p m c s args := X
  have hl : lv_has ls 3 [(0, .ref (ad 5 0))] := hl
  have h11 := h1.1
  have h12 := h1.2
  refine sy_aload_n X d_E_reduce_0 hl 0 rfl ?_
  refine e_get X hw 10 (by decide) rfl (tt_of k208 rfl) d_E_reduce_1 ?_
  have hw := hw.ofE
  refine call_Vi (Xs := XE ad cs E ++ XC ad O P) (b := ad 0 117) (As := []) (rest := []) X lk_E_126 (c_W_side l D cs ad z 117 (by decide) h1) ⟨by decide, by decide⟩ (rcv_Z (by omega)) hw rfl hl.1 (Nat.le_of_ble_eq_true rfl) d_E_reduce_4 rfl rfl ⟨Nat.zero_le _, Nat.zero_le _⟩ (fun _ H locs _ hw => ?_)
  have hw := hw.toE
  refine sy_istore_n (lv1 := [(1, .int (iI ((z 117).sign))), (0, .ref (ad 5 0))]) X d_E_reduce_7 hl rfl (by decide) rfl (fun ls hl => ?_)
  refine sy_iload_n X d_E_reduce_8 hl 0 rfl ?_
  refine sy_if_ne (tgt := 21) X d_E_reduce_9 (by decide) (sgn_R _) (fun co => ?_) (fun co => ?_)
  · refine sy_iload_n X d_E_reduce_21 hl 0 rfl ?_
    refine sy_if_ge (tgt := 33) X d_E_reduce_22 (by decide) (sgn_R _) (fun cp => ?_) (fun cp => ?_)
    · obtain ⟨z0, ez0⟩ : ∃ g, g = z := ⟨_, rfl⟩
      have hw : HW D A s.heap (wE ad cs E O P z0) H locs := by rw [ez0]; exact hw
      have e01 : z0 117 = (((z 117).natAbs : Nat) : Int) := by rw [ez0]; have := sign_ge cp; omega
      have e02 : z0 118 = z 118 := by rw [ez0]
      have e03 : KeepZ z z0 := fun k hk => by rw [ez0]
      have hne := sign_ne co
      have e04 : U160 (z0 117) := by rw [e01]; exact ⟨by omega, by omega⟩
      have e05 : 0 < z0 117 := by rw [e01]; omega
      refine sy_aload_n X d_E_reduce_33 hl 1 rfl ?_
      refine call_Vv (Xs := []) (b := ad 5 0) (As := []) (rest := []) X lk_E_211 (c_E_dropCommonTwos l D cs ad E O P z0 e04 (by rw [e02]; exact h2) e05 (by rw [e02]; exact h4)) ⟨by decide, by decide⟩ (rcv_E) hw rfl hl.1 (Nat.le_of_ble_eq_true rfl) d_E_reduce_34 rfl rfl ⟨Nat.zero_le _, Nat.zero_le _⟩ (fun z2 H locs hp2 hw => ?_)
      obtain ⟨k2, ⟨p21, p22⟩, p23, tw, p24, p25⟩ := hp2
      have u21 : U160 (z2 117) := ⟨by omega, Int.lt_of_le_of_lt (dv_le p21 p24) e04.2⟩
      have u22 : U160 (z2 118) := ⟨by omega, Int.lt_of_le_of_lt (dv_le p22 p25) (by rw [e02]; exact h2.2)⟩
      refine sy_aload_n X d_E_reduce_37 hl 1 rfl ?_
      refine call_Vr (Xs := []) (b := ad 5 0) (As := []) (rest := []) X lk_E_214 (c_E_oddCommonDivisor l D cs ad E O P z2 u21 u22 p21 p22) ⟨by decide, by decide⟩ (rcv_E) hw rfl hl.1 (Nat.le_of_ble_eq_true rfl) d_E_reduce_38 rfl rfl ⟨Nat.zero_le _, Nat.zero_le _⟩ (fun u H locs hp3 hw => ?_)
      obtain ⟨dv, z3⟩ := u
      obtain ⟨hdv, k3, A0, B0, t1, t2, hA0, hB0, hA2, hB2, hgv⟩ := hp3
      simp only at hdv k3 hgv hw
      obtain ⟨Xq, Yq, x1, x2, x3, x4, x5, x6, x7⟩ := red_odd p23 hA0 hB0 hA2 hB2
      rw [← hgv] at x1 x2 x6 x7
      have e31 : z3 117 = Xq * z3 dv := by rw [k3 117 (by decide)]; exact x1
      have e32 : z3 118 = Yq * z3 dv := by rw [k3 118 (by decide)]; exact x2
      have xl : Xq ≤ z2 117 := by rw [x1]; have q1 := Int.mul_le_mul_of_nonneg_left (show (1 : Int) ≤ z3 dv from x6) (Int.le_of_lt x3); rw [Int.mul_one] at q1; exact q1
      have yl : Yq ≤ z2 118 := by rw [x2]; have q1 := Int.mul_le_mul_of_nonneg_left (show (1 : Int) ≤ z3 dv from x6) (Int.le_of_lt x4); rw [Int.mul_one] at q1; exact q1
      have ux : U160 Xq := ⟨by omega, Int.lt_of_le_of_lt xl u21.2⟩
      have uy : U160 Yq := ⟨by omega, Int.lt_of_le_of_lt yl u22.2⟩
      refine sy_astore_n (lv1 := [(2, .ref (ad 0 dv)), (1, .int (iI ((z 117).sign))), (0, .ref (ad 5 0))]) X d_E_reduce_41 hl rfl (by decide) rfl (fun ls hl => ?_)
      refine sy_aload_n X d_E_reduce_42 hl 2 rfl ?_
      refine e_get X hw 10 (by decide) rfl (tt_of k208 rfl) d_E_reduce_43 ?_
      refine sy_aload_n X d_E_reduce_46 hl 0 rfl ?_
      have hw := hw.ofE
      refine call_Vv (Xs := XE ad cs E ++ XC ad O P) (b := ad 0 117) (As := [.ref (ad 0 dv)]) (rest := []) X lk_E_218 (c_W_divideByOdd l D cs ad z3 117 dv Xq (by decide) (by omega) (by omega) e31 ux x7) ⟨by decide, by decide⟩ (rcv_Z (by omega)) hw rfl hl.1 (Nat.le_of_ble_eq_true rfl) d_E_reduce_47 rfl rfl ⟨Nat.zero_le _, Nat.zero_le _⟩ (fun _ H locs _ hw => ?_)
      have hw := hw.toE
      refine sy_aload_n X d_E_reduce_50 hl 2 rfl ?_
      refine e_get X hw 11 (by decide) rfl (tt_of k209 rfl) d_E_reduce_51 ?_
      refine sy_aload_n X d_E_reduce_54 hl 0 rfl ?_
      have hw := hw.ofE
      refine call_Vv (Xs := XE ad cs E ++ XC ad O P) (b := ad 0 118) (As := [.ref (ad 0 dv)]) (rest := []) X lk_E_218 (c_W_divideByOdd l D cs ad (up1 z3 117 Xq) 118 dv Yq (by decide) (by omega) (by omega) (by rw [up1_n _ (by decide), up1_n _ (by omega)]; exact e32) uy (by rw [up1_n _ (by omega)]; exact x7)) ⟨by decide, by decide⟩ (rcv_Z (by omega)) hw rfl hl.1 (Nat.le_of_ble_eq_true rfl) d_E_reduce_55 rfl rfl ⟨Nat.zero_le _, Nat.zero_le _⟩ (fun _ H locs _ hw => ?_)
      have hw := hw.toE
      have hlo := low_un (a := z 117) (b := z 118) (X := Xq) (Y := Yq) (k := z3 dv * 2 ^ tw) (g := 0) (by rw [← e01, p24, x1, Int.mul_assoc]) (by rw [← e02, p25, x2, Int.mul_assoc]) (Int.mul_pos x6 (Int.pow_pos (by decide))) x3 x4 x5 rfl
      exact kr (up1 (up1 z3 117 Xq) 118 Yq) _ _ _ _ d_E_reduce_58 hw ⟨fun k hk => by rw [up1_n _ (by omega), up1_n _ (by omega), k3 k (by omega), k2 k hk]; exact e03 k hk, ⟨by rw [up1_n _ (by decide), up1_s, hlo.1], by rw [up1_s, hlo.2]⟩, by rw [up1_n _ (by decide), up1_s]; exact ux, by rw [up1_s]; exact uy⟩
    · refine sy_aload_n X d_E_reduce_25 hl 1 rfl ?_
      refine e_get X hw 10 (by decide) rfl (tt_of k208 rfl) d_E_reduce_26 ?_
      refine sy_iconst X d_E_reduce_29 ?_
      have hw := hw.ofE
      refine call_Vv (Xs := XE ad cs E ++ XC ad O P) (b := ad 0 117) (As := [.int (iI (-1))]) (rest := []) X lk_E_208 (c_W_scale l D cs ad z 117 (-1) (by decide) ⟨by decide, by decide⟩) ⟨by decide, by decide⟩ (rcv_Z (by omega)) hw rfl hl.1 (Nat.le_of_ble_eq_true rfl) d_E_reduce_30 rfl rfl ⟨Nat.zero_le _, Nat.zero_le _⟩ (fun _ H locs _ hw => ?_)
      have hw := hw.toE
      obtain ⟨z0, ez0⟩ : ∃ g, g = up1 z 117 (z 117 * (-1)) := ⟨_, rfl⟩
      have hw : HW D A s.heap (wE ad cs E O P z0) H locs := by rw [ez0]; exact hw
      have e01 : z0 117 = (((z 117).natAbs : Nat) : Int) := by rw [ez0, up1_s]; have := sign_lt cp; omega
      have e02 : z0 118 = z 118 := by rw [ez0, up1_n _ (by decide)]
      have e03 : KeepZ z z0 := fun k hk => by rw [ez0, up1_n _ (by omega)]
      have hne := sign_ne co
      have e04 : U160 (z0 117) := by rw [e01]; exact ⟨by omega, by omega⟩
      have e05 : 0 < z0 117 := by rw [e01]; omega
      refine sy_aload_n X d_E_reduce_33 hl 1 rfl ?_
      refine call_Vv (Xs := []) (b := ad 5 0) (As := []) (rest := []) X lk_E_211 (c_E_dropCommonTwos l D cs ad E O P z0 e04 (by rw [e02]; exact h2) e05 (by rw [e02]; exact h4)) ⟨by decide, by decide⟩ (rcv_E) hw rfl hl.1 (Nat.le_of_ble_eq_true rfl) d_E_reduce_34 rfl rfl ⟨Nat.zero_le _, Nat.zero_le _⟩ (fun z2 H locs hp2 hw => ?_)
      obtain ⟨k2, ⟨p21, p22⟩, p23, tw, p24, p25⟩ := hp2
      have u21 : U160 (z2 117) := ⟨by omega, Int.lt_of_le_of_lt (dv_le p21 p24) e04.2⟩
      have u22 : U160 (z2 118) := ⟨by omega, Int.lt_of_le_of_lt (dv_le p22 p25) (by rw [e02]; exact h2.2)⟩
      refine sy_aload_n X d_E_reduce_37 hl 1 rfl ?_
      refine call_Vr (Xs := []) (b := ad 5 0) (As := []) (rest := []) X lk_E_214 (c_E_oddCommonDivisor l D cs ad E O P z2 u21 u22 p21 p22) ⟨by decide, by decide⟩ (rcv_E) hw rfl hl.1 (Nat.le_of_ble_eq_true rfl) d_E_reduce_38 rfl rfl ⟨Nat.zero_le _, Nat.zero_le _⟩ (fun u H locs hp3 hw => ?_)
      obtain ⟨dv, z3⟩ := u
      obtain ⟨hdv, k3, A0, B0, t1, t2, hA0, hB0, hA2, hB2, hgv⟩ := hp3
      simp only at hdv k3 hgv hw
      obtain ⟨Xq, Yq, x1, x2, x3, x4, x5, x6, x7⟩ := red_odd p23 hA0 hB0 hA2 hB2
      rw [← hgv] at x1 x2 x6 x7
      have e31 : z3 117 = Xq * z3 dv := by rw [k3 117 (by decide)]; exact x1
      have e32 : z3 118 = Yq * z3 dv := by rw [k3 118 (by decide)]; exact x2
      have xl : Xq ≤ z2 117 := by rw [x1]; have q1 := Int.mul_le_mul_of_nonneg_left (show (1 : Int) ≤ z3 dv from x6) (Int.le_of_lt x3); rw [Int.mul_one] at q1; exact q1
      have yl : Yq ≤ z2 118 := by rw [x2]; have q1 := Int.mul_le_mul_of_nonneg_left (show (1 : Int) ≤ z3 dv from x6) (Int.le_of_lt x4); rw [Int.mul_one] at q1; exact q1
      have ux : U160 Xq := ⟨by omega, Int.lt_of_le_of_lt xl u21.2⟩
      have uy : U160 Yq := ⟨by omega, Int.lt_of_le_of_lt yl u22.2⟩
      refine sy_astore_n (lv1 := [(2, .ref (ad 0 dv)), (1, .int (iI ((z 117).sign))), (0, .ref (ad 5 0))]) X d_E_reduce_41 hl rfl (by decide) rfl (fun ls hl => ?_)
      refine sy_aload_n X d_E_reduce_42 hl 2 rfl ?_
      refine e_get X hw 10 (by decide) rfl (tt_of k208 rfl) d_E_reduce_43 ?_
      refine sy_aload_n X d_E_reduce_46 hl 0 rfl ?_
      have hw := hw.ofE
      refine call_Vv (Xs := XE ad cs E ++ XC ad O P) (b := ad 0 117) (As := [.ref (ad 0 dv)]) (rest := []) X lk_E_218 (c_W_divideByOdd l D cs ad z3 117 dv Xq (by decide) (by omega) (by omega) e31 ux x7) ⟨by decide, by decide⟩ (rcv_Z (by omega)) hw rfl hl.1 (Nat.le_of_ble_eq_true rfl) d_E_reduce_47 rfl rfl ⟨Nat.zero_le _, Nat.zero_le _⟩ (fun _ H locs _ hw => ?_)
      have hw := hw.toE
      refine sy_aload_n X d_E_reduce_50 hl 2 rfl ?_
      refine e_get X hw 11 (by decide) rfl (tt_of k209 rfl) d_E_reduce_51 ?_
      refine sy_aload_n X d_E_reduce_54 hl 0 rfl ?_
      have hw := hw.ofE
      refine call_Vv (Xs := XE ad cs E ++ XC ad O P) (b := ad 0 118) (As := [.ref (ad 0 dv)]) (rest := []) X lk_E_218 (c_W_divideByOdd l D cs ad (up1 z3 117 Xq) 118 dv Yq (by decide) (by omega) (by omega) (by rw [up1_n _ (by decide), up1_n _ (by omega)]; exact e32) uy (by rw [up1_n _ (by omega)]; exact x7)) ⟨by decide, by decide⟩ (rcv_Z (by omega)) hw rfl hl.1 (Nat.le_of_ble_eq_true rfl) d_E_reduce_55 rfl rfl ⟨Nat.zero_le _, Nat.zero_le _⟩ (fun _ H locs _ hw => ?_)
      have hw := hw.toE
      have hlo := low_un (a := z 117) (b := z 118) (X := Xq) (Y := Yq) (k := z3 dv * 2 ^ tw) (g := 0) (by rw [← e01, p24, x1, Int.mul_assoc]) (by rw [← e02, p25, x2, Int.mul_assoc]) (Int.mul_pos x6 (Int.pow_pos (by decide))) x3 x4 x5 rfl
      exact kr (up1 (up1 z3 117 Xq) 118 Yq) _ _ _ _ d_E_reduce_58 hw ⟨fun k hk => by rw [up1_n _ (by omega), up1_n _ (by omega), k3 k (by omega), k2 k hk]; exact e03 k hk, ⟨by rw [up1_n _ (by decide), up1_s, hlo.1], by rw [up1_s, hlo.2]⟩, by rw [up1_n _ (by decide), up1_s]; exact ux, by rw [up1_s]; exact uy⟩
  · refine sy_aload_n X d_E_reduce_12 hl 1 rfl ?_
    refine e_get X hw 11 (by decide) rfl (tt_of k209 rfl) d_E_reduce_13 ?_
    refine sy_iconst X d_E_reduce_16 ?_
    have hw := hw.ofE
    refine call_Vv (Xs := XE ad cs E ++ XC ad O P) (b := ad 0 118) (As := [.int (iI 1)]) (rest := []) X lk_E_206 (c_W_set l D cs ad z 118 1 (by decide) ⟨by decide, by decide⟩) ⟨by decide, by decide⟩ (rcv_Z (by omega)) hw rfl hl.1 (Nat.le_of_ble_eq_true rfl) d_E_reduce_17 rfl rfl ⟨Nat.zero_le _, Nat.zero_le _⟩ (fun _ H locs _ hw => ?_)
    have hw := hw.toE
    have hz0 : z 117 = 0 := by have := sign_eq co; omega
    exact kr (up1 z 118 1) _ _ _ _ d_E_reduce_20 hw ⟨fun k hk => by rw [up1_n _ (by omega)], ⟨by rw [up1_n _ (by decide), hz0, (lw_zero h4).1]; rfl, by rw [up1_s, hz0, (lw_zero h4).2]⟩, by rw [up1_n _ (by decide), hz0]; exact ⟨by decide, by decide⟩, by rw [up1_s]; exact ⟨by decide, by decide⟩⟩
set_option maxRecDepth 100000 in
set_option maxHeartbeats 4000000 in
theorem c_E_sign (l : Launch) (D : va_G) (cs : Nat → ClassId) (ad : Nat → Nat → Nat) (E O P : Nat → Nat → Int) (z : Nat → Int) (t q : Nat) (kd tt e0 : Int) (hI : CI E O P t q) (k0 : R31 kd) (k1 : R31 tt) (k2 : R31 e0) (hN : okQ t q kd tt e0 → N127 (cN E O P z t q kd tt e0) (cD E O P z t q kd tt)) : Ct (S := Int × (Nat → Int)) l D (tyL cs) y_E_sign b_E_sign 4 (some .int) (rm 8) [.ref (ad 5 0), .int (iI kd), .int (iI tt), .int (iI e0)] (wE ad cs E O P z) (fun u => (¬ okQ t q kd tt e0 ∧ u = (-2, z)) ∨ (okQ t q kd tt e0 ∧ KeepZ z u.2 ∧ u.1 = (cN E O P z t q kd tt e0).sign)) (fun u => some (.int (iI u.1))) (fun u => wE ad cs E O P u.2) := by
  refine Ct.introI (by decide) (Nat.le_of_ble_eq_true rfl) ?_
  intro p e s m below meth c A args Q H locs X hnm hw kr ls hl
  have X : CX D (tyL cs) R_E b_E_sign 4 p m c s args := X
  have hl : lv_has ls 4 [(0, .ref (ad 5 0)), (1, .int (iI kd)), (2, .int (iI tt)), (3, .int (iI e0))] := hl
  refine sy_aload_n X d_E_sign_0 hl 0 rfl ?_
  refine sy_iload_n X d_E_sign_1 hl 1 rfl ?_
  refine sy_iload_n X d_E_sign_2 hl 2 rfl ?_
  refine sy_iload_n X d_E_sign_3 hl 3 rfl ?_
  refine call_Vi (Xs := []) (b := ad 5 0) (As := [.int (iI kd), .int (iI tt), .int (iI e0)]) (rest := []) X lk_E_123 (c_E_find l D cs ad E O P z t q kd tt e0 hI k0 k1 k2) ⟨by decide, by decide⟩ (rcv_E) hw rfl hl.1 (Nat.le_of_ble_eq_true rfl) d_E_sign_4 rfl rfl ⟨Nat.zero_le _, Nat.zero_le _⟩ (fun u H locs hp hw => ?_)
  obtain ⟨fd, z1⟩ := u
  simp only at hp hw ⊢
  refine sy_if_eq (tgt := 20) X d_E_sign_7 (by decide) (by rcases hp with ⟨-, h⟩ | ⟨-, h, -⟩; (have := (Prod.mk.inj h).1; exact ⟨by omega, by omega⟩); exact ⟨by omega, by omega⟩) (fun c1 => ?_) (fun c1 => ?_)
  · refine sy_bipush X d_E_sign_20 (by decide) ?_
    have hno : ¬ okQ t q kd tt e0 ∧ (fd, z1) = (0, z) := by
      rcases hp with h | ⟨-, h, -⟩
      · exact h
      · omega
    have hz1 := (Prod.mk.inj hno.2).2
    rw [hz1] at hw
    exact kr (-2, z) _ _ _ _ _ d_E_sign_22 hw (Or.inl ⟨hno.1, rfl⟩) rfl
  · obtain ⟨hok, -, hk1, hz7, hz8⟩ : okQ t q kd tt e0 ∧ fd = 1 ∧ KeepZ z z1 ∧ z1 117 = cN E O P z t q kd tt e0 ∧ z1 118 = cD E O P z t q kd tt := by
      rcases hp with ⟨-, h⟩ | h
      · have := (Prod.mk.inj h).1; omega
      · exact h
    obtain ⟨n1, n2, n3, n4⟩ := hN hok
    rw [← hz7] at n1 n2
    rw [← hz8] at n3 n4
    have r159 : R159 (z1 117) := ⟨by omega, by omega⟩
    have u160 : U160 (z1 118) := ⟨by omega, by omega⟩
    refine sy_aload_n X d_E_sign_10 hl 0 rfl ?_
    refine e_get X hw 10 (by decide) rfl (tt_of k208 rfl) d_E_sign_11 ?_
    have hw := hw.ofE
    refine call_Vi (Xs := XE ad cs E ++ XC ad O P) (b := ad 0 117) (As := []) (rest := []) X lk_E_126 (c_W_side l D cs ad z1 117 (by decide) r159) ⟨by decide, by decide⟩ (rcv_Z (by omega)) hw rfl hl.1 (Nat.le_of_ble_eq_true rfl) d_E_sign_14 rfl rfl ⟨Nat.zero_le _, Nat.zero_le _⟩ (fun _ H locs _ hw => ?_)
    have hw := hw.toE
    refine sy_goto (tgt := 22) X d_E_sign_17 (by decide) ?_
    exact kr ((z1 117).sign, z1) _ _ _ _ _ d_E_sign_22 hw (Or.inr ⟨hok, hk1, by show (z1 117).sign = _; rw [hz7]⟩) rfl
set_option maxRecDepth 100000 in
set_option maxHeartbeats 4000000 in
theorem c_E_compare (l : Launch) (D : va_G) (cs : Nat → ClassId) (ad : Nat → Nat → Nat) (E O P : Nat → Nat → Int) (z : Nat → Int) (t q : Nat) (kd tt e0 : Int) (hI : CI E O P t q) (k0 : R31 kd) (k1 : R31 tt) (k2 : R31 e0) (hN : okQ t q kd tt e0 → N127 (cN E O P z t q kd tt e0) (cD E O P z t q kd tt)) (p0 q0 : Int) (k3 : R31 p0) (k4 : R31 q0) : Ct (S := Int × (Nat → Int)) l D (tyL cs) y_E_compare b_E_compare 6 (some .int) (rm 8) [.ref (ad 5 0), .int (iI kd), .int (iI tt), .int (iI e0), .int (iI p0), .int (iI q0)] (wE ad cs E O P z) (fun u => (¬ okQ t q kd tt e0 ∧ u = (-2, z)) ∨ (okQ t q kd tt e0 ∧ q0 < 1 ∧ KeepZ z u.2 ∧ u.1 = -3) ∨ (okQ t q kd tt e0 ∧ 1 ≤ q0 ∧ KeepZ z u.2 ∧ u.1 = (cN E O P z t q kd tt e0 * q0 - cD E O P z t q kd tt * p0).sign)) (fun u => some (.int (iI u.1))) (fun u => wE ad cs E O P u.2) := by
  refine Ct.introI (by decide) (Nat.le_of_ble_eq_true rfl) ?_
  intro p e s m below meth c A args Q H locs X hnm hw kr ls hl
  have X : CX D (tyL cs) R_E b_E_compare 6 p m c s args := X
  have hl : lv_has ls 6 [(0, .ref (ad 5 0)), (1, .int (iI kd)), (2, .int (iI tt)), (3, .int (iI e0)), (4, .int (iI p0)), (5, .int (iI q0))] := hl
  have k41 := k4.1
  have k42 := k4.2
  refine sy_aload_n X d_E_compare_0 hl 0 rfl ?_
  refine sy_iload_n X d_E_compare_1 hl 1 rfl ?_
  refine sy_iload_n X d_E_compare_2 hl 2 rfl ?_
  refine sy_iload_n X d_E_compare_3 hl 3 rfl ?_
  refine call_Vi (Xs := []) (b := ad 5 0) (As := [.int (iI kd), .int (iI tt), .int (iI e0)]) (rest := []) X lk_E_123 (c_E_find l D cs ad E O P z t q kd tt e0 hI k0 k1 k2) ⟨by decide, by decide⟩ (rcv_E) hw rfl hl.1 (Nat.le_of_ble_eq_true rfl) d_E_compare_4 rfl rfl ⟨Nat.zero_le _, Nat.zero_le _⟩ (fun u H locs hp hw => ?_)
  obtain ⟨fd, z1⟩ := u
  simp only at hp hw ⊢
  refine sy_if_ne (tgt := 13) X d_E_compare_7 (by decide) (by rcases hp with ⟨-, h⟩ | ⟨-, h, -⟩; (have := (Prod.mk.inj h).1; exact ⟨by omega, by omega⟩); exact ⟨by omega, by omega⟩) (fun c1 => ?_) (fun c1 => ?_)
  · obtain ⟨hok, -, hk1, hz7, hz8⟩ : okQ t q kd tt e0 ∧ fd = 1 ∧ KeepZ z z1 ∧ z1 117 = cN E O P z t q kd tt e0 ∧ z1 118 = cD E O P z t q kd tt := by
      rcases hp with ⟨-, h⟩ | h
      · have := (Prod.mk.inj h).1; omega
      · exact h
    obtain ⟨n1, n2, n3, n4⟩ := hN hok
    rw [← hz7] at n1 n2
    rw [← hz8] at n3 n4
    have r159 : R159 (z1 117) := ⟨by omega, by omega⟩
    have u160 : U160 (z1 118) := ⟨by omega, by omega⟩
    refine sy_iload X d_E_compare_13 hl 5 rfl ?_
    refine sy_iconst X d_E_compare_15 ?_
    refine sy_icmp_ge (tgt := 22) X d_E_compare_16 (by decide) ⟨by omega, by omega⟩ ⟨by omega, by omega⟩ (fun c2 => ?_) (fun c2 => ?_)
    · refine sy_aload_n X d_E_compare_22 hl 0 rfl ?_
      refine e_get X hw 12 (by decide) rfl (tt_of k210 rfl) d_E_compare_23 ?_
      refine sy_aload_n X d_E_compare_26 hl 0 rfl ?_
      refine e_get X hw 10 (by decide) rfl (tt_of k208 rfl) d_E_compare_27 ?_
      refine sy_iload X d_E_compare_30 hl 5 rfl ?_
      have hw := hw.ofE
      refine call_Vv (Xs := XE ad cs E ++ XC ad O P) (b := ad 0 119) (As := [.ref (ad 0 117), .int (iI q0)]) (rest := []) X lk_E_143 (c_W_setTimes l D cs ad z1 119 117 q0 (by decide) (by decide) k4) ⟨by decide, by decide⟩ (rcv_Z (by omega)) hw rfl hl.1 (Nat.le_of_ble_eq_true rfl) d_E_compare_32 rfl rfl ⟨Nat.zero_le _, Nat.zero_le _⟩ (fun _ H locs _ hw => ?_)
      have hw := hw.toE
      refine sy_aload_n X d_E_compare_35 hl 0 rfl ?_
      refine e_get X hw 13 (by decide) rfl (tt_of k211 rfl) d_E_compare_36 ?_
      refine sy_aload_n X d_E_compare_39 hl 0 rfl ?_
      refine e_get X hw 11 (by decide) rfl (tt_of k209 rfl) d_E_compare_40 ?_
      refine sy_iload X d_E_compare_43 hl 4 rfl ?_
      have hw := hw.ofE
      refine call_Vv (Xs := XE ad cs E ++ XC ad O P) (b := ad 0 120) (As := [.ref (ad 0 118), .int (iI p0)]) (rest := []) X lk_E_143 (c_W_setTimes l D cs ad (up1 z1 119 (z1 117 * q0)) 120 118 p0 (by decide) (by decide) k3) ⟨by decide, by decide⟩ (rcv_Z (by omega)) hw rfl hl.1 (Nat.le_of_ble_eq_true rfl) d_E_compare_45 rfl rfl ⟨Nat.zero_le _, Nat.zero_le _⟩ (fun _ H locs _ hw => ?_)
      have hw := hw.toE
      obtain ⟨z2, ez2⟩ : ∃ g, g = up1 (up1 z1 119 (z1 117 * q0)) 120 (up1 z1 119 (z1 117 * q0) 118 * p0) := ⟨_, rfl⟩
      rw [← ez2] at hw
      refine sy_aload_n X d_E_compare_48 hl 0 rfl ?_
      refine e_get X hw 12 (by decide) rfl (tt_of k210 rfl) d_E_compare_49 ?_
      refine sy_aload_n X d_E_compare_52 hl 0 rfl ?_
      refine e_get X hw 13 (by decide) rfl (tt_of k211 rfl) d_E_compare_53 ?_
      refine sy_iconst X d_E_compare_56 ?_
      have hw := hw.ofE
      refine call_Vv (Xs := XE ad cs E ++ XC ad O P) (b := ad 0 119) (As := [.ref (ad 0 120), .int (iI (-1))]) (rest := []) X lk_E_147 (c_W_addTimes l D cs ad z2 119 120 (-1) (by decide) (by decide) ⟨by decide, by decide⟩) ⟨by decide, by decide⟩ (rcv_Z (by omega)) hw rfl hl.1 (Nat.le_of_ble_eq_true rfl) d_E_compare_57 rfl rfl ⟨Nat.zero_le _, Nat.zero_le _⟩ (fun _ H locs _ hw => ?_)
      have hw := hw.toE
      obtain ⟨z3, ez3⟩ : ∃ g, g = up1 z2 119 (z2 119 + z2 120 * (-1)) := ⟨_, rfl⟩
      rw [← ez3] at hw
      have e2a : z2 119 = z1 117 * q0 := by rw [ez2, up1_n _ (by decide), up1_s]
      have e2b : z2 120 = z1 118 * p0 := by rw [ez2, up1_s, up1_n _ (by decide)]
      have e3 : z3 119 = cN E O P z t q kd tt e0 * q0 + cD E O P z t q kd tt * p0 * (-1) := by rw [ez3, up1_s, e2a, e2b, hz7, hz8]
      have r3 : R159 (z3 119) := by rw [e3]; exact n127_c (hN hok) k3 k4
      have k5 : KeepZ z z3 := fun k hk => by rw [ez3, up1_n _ (by omega), ez2, up1_n _ (by omega), up1_n _ (by omega)]; exact hk1 k hk
      refine sy_aload_n X d_E_compare_60 hl 0 rfl ?_
      refine e_get X hw 12 (by decide) rfl (tt_of k210 rfl) d_E_compare_61 ?_
      have hw := hw.ofE
      refine call_Vi (Xs := XE ad cs E ++ XC ad O P) (b := ad 0 119) (As := []) (rest := []) X lk_E_126 (c_W_side l D cs ad z3 119 (by decide) r3) ⟨by decide, by decide⟩ (rcv_Z (by omega)) hw rfl hl.1 (Nat.le_of_ble_eq_true rfl) d_E_compare_64 rfl rfl ⟨Nat.zero_le _, Nat.zero_le _⟩ (fun _ H locs _ hw => ?_)
      have hw := hw.toE
      exact kr ((z3 119).sign, z3) _ _ _ _ _ d_E_compare_67 hw (Or.inr (Or.inr ⟨hok, by omega, k5, by show (z3 119).sign = _; rw [e3]; congr 1; omega⟩)) rfl
    · refine sy_bipush X d_E_compare_19 (by decide) ?_
      exact kr (-3, z1) _ _ _ _ _ d_E_compare_21 hw (Or.inr (Or.inl ⟨hok, by omega, hk1, rfl⟩)) rfl
  · refine sy_bipush X d_E_compare_10 (by decide) ?_
    have hno : ¬ okQ t q kd tt e0 ∧ (fd, z1) = (0, z) := by
      rcases hp with h | ⟨-, h, -⟩
      · exact h
      · omega
    have hz1 := (Prod.mk.inj hno.2).2
    rw [hz1] at hw
    exact kr (-2, z) _ _ _ _ _ d_E_compare_12 hw (Or.inl ⟨hno.1, rfl⟩) rfl
set_option maxRecDepth 100000 in
set_option maxHeartbeats 4000000 in
theorem c_E_bits (l : Launch) (D : va_G) (cs : Nat → ClassId) (ad : Nat → Nat → Nat) (E O P : Nat → Nat → Int) (z : Nat → Int) (t q : Nat) (kd tt e0 : Int) (hI : CI E O P t q) (k0 : R31 kd) (k1 : R31 tt) (k2 : R31 e0) (hN : okQ t q kd tt e0 → N127 (cN E O P z t q kd tt e0) (cD E O P z t q kd tt)) (lw : Int) (k3 : lw = 0 ∨ lw = 1) : Ct (S := Int × (Nat → Int)) l D (tyL cs) y_E_bits b_E_bits 5 (some .int) (rm 8) [.ref (ad 5 0), .int (iI kd), .int (iI tt), .int (iI e0), .int (iI lw)] (wE ad cs E O P z) (fun u => (¬ okQ t q kd tt e0 ∧ u = (-2, z)) ∨ (okQ t q kd tt e0 ∧ KeepZ z u.2 ∧ ∃ r : Nat, BL (if lw = 0 then lwN (cN E O P z t q kd tt e0) (cD E O P z t q kd tt) else lwD (cN E O P z t q kd tt e0) (cD E O P z t q kd tt)) r ∧ u.1 = (r : Int))) (fun u => some (.int (iI u.1))) (fun u => wE ad cs E O P u.2) := by
  refine Ct.introI (by decide) (Nat.le_of_ble_eq_true rfl) ?_
  intro p e s m below meth c A args Q H locs X hnm hw kr ls hl
  have X : CX D (tyL cs) R_E b_E_bits 5 p m c s args := X
  have hl : lv_has ls 5 [(0, .ref (ad 5 0)), (1, .int (iI kd)), (2, .int (iI tt)), (3, .int (iI e0)), (4, .int (iI lw))] := hl
  refine sy_aload_n X d_E_bits_0 hl 0 rfl ?_
  refine sy_iload_n X d_E_bits_1 hl 1 rfl ?_
  refine sy_iload_n X d_E_bits_2 hl 2 rfl ?_
  refine sy_iload_n X d_E_bits_3 hl 3 rfl ?_
  refine call_Vi (Xs := []) (b := ad 5 0) (As := [.int (iI kd), .int (iI tt), .int (iI e0)]) (rest := []) X lk_E_123 (c_E_find l D cs ad E O P z t q kd tt e0 hI k0 k1 k2) ⟨by decide, by decide⟩ (rcv_E) hw rfl hl.1 (Nat.le_of_ble_eq_true rfl) d_E_bits_4 rfl rfl ⟨Nat.zero_le _, Nat.zero_le _⟩ (fun u H locs hp hw => ?_)
  obtain ⟨fd, z1⟩ := u
  simp only at hp hw ⊢
  refine sy_if_ne (tgt := 13) X d_E_bits_7 (by decide) (by rcases hp with ⟨-, h⟩ | ⟨-, h, -⟩; (have := (Prod.mk.inj h).1; exact ⟨by omega, by omega⟩); exact ⟨by omega, by omega⟩) (fun c1 => ?_) (fun c1 => ?_)
  · obtain ⟨hok, -, hk1, hz7, hz8⟩ : okQ t q kd tt e0 ∧ fd = 1 ∧ KeepZ z z1 ∧ z1 117 = cN E O P z t q kd tt e0 ∧ z1 118 = cD E O P z t q kd tt := by
      rcases hp with ⟨-, h⟩ | h
      · have := (Prod.mk.inj h).1; omega
      · exact h
    obtain ⟨n1, n2, n3, n4⟩ := hN hok
    rw [← hz7] at n1 n2
    rw [← hz8] at n3 n4
    have r159 : R159 (z1 117) := ⟨by omega, by omega⟩
    have u160 : U160 (z1 118) := ⟨by omega, by omega⟩
    refine sy_aload_n X d_E_bits_13 hl 0 rfl ?_
    refine call_Vv (Xs := []) (b := ad 5 0) (As := []) (rest := []) X lk_E_129 (c_E_reduce l D cs ad E O P z1 r159 u160 n3) ⟨by decide, by decide⟩ (rcv_E) hw rfl hl.1 (Nat.le_of_ble_eq_true rfl) d_E_bits_14 rfl rfl ⟨Nat.zero_le _, Nat.zero_le _⟩ (fun z2 H locs hp2 hw => ?_)
    obtain ⟨k5, ⟨h27, h28⟩, u27, u28⟩ := hp2
    rw [hz7, hz8] at h27 h28
    have k6 : KeepZ z z2 := fun k hk => by rw [k5 k hk]; exact hk1 k hk
    refine sy_iload X d_E_bits_17 hl 4 rfl ?_
    refine sy_if_eq (tgt := 32) X d_E_bits_19 (by decide) ⟨by omega, by omega⟩ (fun c2 => ?_) (fun c2 => ?_)
    · refine sy_aload_n X d_E_bits_32 hl 0 rfl ?_
      refine e_get X hw 10 (by decide) rfl (tt_of k208 rfl) d_E_bits_33 ?_
      have hw := hw.ofE
      refine call_Vi (Xs := XE ad cs E ++ XC ad O P) (b := ad 0 117) (As := []) (rest := []) X lk_E_132 (c_W_length l D cs ad z2 117 (by decide) u27) ⟨by decide, by decide⟩ (rcv_Z (by omega)) hw rfl hl.1 (Nat.le_of_ble_eq_true rfl) d_E_bits_36 rfl rfl ⟨Nat.zero_le _, Nat.zero_le _⟩ (fun r H locs hr hw => ?_)
      have hw := hw.toE
      exact kr ((r : Int), z2) _ _ _ _ _ d_E_bits_39 hw (Or.inr ⟨hok, k6, r, by rw [if_pos (by omega)]; rw [h27] at hr; exact BL_abs hr, rfl⟩) rfl
    · refine sy_aload_n X d_E_bits_22 hl 0 rfl ?_
      refine e_get X hw 11 (by decide) rfl (tt_of k209 rfl) d_E_bits_23 ?_
      have hw := hw.ofE
      refine call_Vi (Xs := XE ad cs E ++ XC ad O P) (b := ad 0 118) (As := []) (rest := []) X lk_E_132 (c_W_length l D cs ad z2 118 (by decide) u28) ⟨by decide, by decide⟩ (rcv_Z (by omega)) hw rfl hl.1 (Nat.le_of_ble_eq_true rfl) d_E_bits_26 rfl rfl ⟨Nat.zero_le _, Nat.zero_le _⟩ (fun r H locs hr hw => ?_)
      have hw := hw.toE
      refine sy_goto (tgt := 39) X d_E_bits_29 (by decide) ?_
      exact kr ((r : Int), z2) _ _ _ _ _ d_E_bits_39 hw (Or.inr ⟨hok, k6, r, by rw [if_neg (by omega), ← h28]; exact hr, rfl⟩) rfl
  · refine sy_bipush X d_E_bits_10 (by decide) ?_
    have hno : ¬ okQ t q kd tt e0 ∧ (fd, z1) = (0, z) := by
      rcases hp with h | ⟨-, h, -⟩
      · exact h
      · omega
    have hz1 := (Prod.mk.inj hno.2).2
    rw [hz1] at hw
    exact kr (-2, z) _ _ _ _ _ d_E_bits_12 hw (Or.inl ⟨hno.1, rfl⟩) rfl
set_option maxRecDepth 100000 in
set_option maxHeartbeats 4000000 in
theorem c_E_word (l : Launch) (D : va_G) (cs : Nat → ClassId) (ad : Nat → Nat → Nat) (E O P : Nat → Nat → Int) (z : Nat → Int) (t q : Nat) (kd tt e0 : Int) (hI : CI E O P t q) (k0 : R31 kd) (k1 : R31 tt) (k2 : R31 e0) (hN : okQ t q kd tt e0 → N127 (cN E O P z t q kd tt e0) (cD E O P z t q kd tt)) (lw kk : Int) (k3 : lw = 0 ∨ lw = 1) (k4 : R31 kk) : Ct (S := Int × (Nat → Int)) l D (tyL cs) y_E_word b_E_word 6 (some .long) (rm 8) [.ref (ad 5 0), .int (iI kd), .int (iI tt), .int (iI e0), .int (iI lw), .int (iI kk)] (wE ad cs E O P z) (fun u => (¬ okQ t q kd tt e0 ∧ u = (-2, z)) ∨ (okQ t q kd tt e0 ∧ ¬ (0 ≤ kk ∧ kk ≤ 31) ∧ KeepZ z u.2 ∧ u.1 = -3) ∨ (okQ t q kd tt e0 ∧ (0 ≤ kk ∧ kk ≤ 31) ∧ KeepZ z u.2 ∧ u.1 = ((if lw = 0 then lwN (cN E O P z t q kd tt e0) (cD E O P z t q kd tt) else lwD (cN E O P z t q kd tt e0) (cD E O P z t q kd tt)).natAbs : Int) / 2 ^ (32 * kk.toNat) % 4294967296)) (fun u => some (.long (jI u.1))) (fun u => wE ad cs E O P u.2) := by
  refine Ct.introJ (by decide) (Nat.le_of_ble_eq_true rfl) ?_
  intro p e s m below meth c A args Q H locs X hnm hw kr ls hl
  have X : CX D (tyL cs) R_E b_E_word 6 p m c s args := X
  have hl : lv_has ls 6 [(0, .ref (ad 5 0)), (1, .int (iI kd)), (2, .int (iI tt)), (3, .int (iI e0)), (4, .int (iI lw)), (5, .int (iI kk))] := hl
  have k41 := k4.1
  have k42 := k4.2
  refine sy_aload_n X d_E_word_0 hl 0 rfl ?_
  refine sy_iload_n X d_E_word_1 hl 1 rfl ?_
  refine sy_iload_n X d_E_word_2 hl 2 rfl ?_
  refine sy_iload_n X d_E_word_3 hl 3 rfl ?_
  refine call_Vi (Xs := []) (b := ad 5 0) (As := [.int (iI kd), .int (iI tt), .int (iI e0)]) (rest := []) X lk_E_123 (c_E_find l D cs ad E O P z t q kd tt e0 hI k0 k1 k2) ⟨by decide, by decide⟩ (rcv_E) hw rfl hl.1 (Nat.le_of_ble_eq_true rfl) d_E_word_4 rfl rfl ⟨Nat.zero_le _, Nat.zero_le _⟩ (fun u H locs hp hw => ?_)
  obtain ⟨fd, z1⟩ := u
  simp only at hp hw ⊢
  refine sy_if_ne (tgt := 14) X d_E_word_7 (by decide) (by rcases hp with ⟨-, h⟩ | ⟨-, h, -⟩; (have := (Prod.mk.inj h).1; exact ⟨by omega, by omega⟩); exact ⟨by omega, by omega⟩) (fun c1 => ?_) (fun c1 => ?_)
  · obtain ⟨hok, -, hk1, hz7, hz8⟩ : okQ t q kd tt e0 ∧ fd = 1 ∧ KeepZ z z1 ∧ z1 117 = cN E O P z t q kd tt e0 ∧ z1 118 = cD E O P z t q kd tt := by
      rcases hp with ⟨-, h⟩ | h
      · have := (Prod.mk.inj h).1; omega
      · exact h
    obtain ⟨n1, n2, n3, n4⟩ := hN hok
    rw [← hz7] at n1 n2
    rw [← hz8] at n3 n4
    have r159 : R159 (z1 117) := ⟨by omega, by omega⟩
    have u160 : U160 (z1 118) := ⟨by omega, by omega⟩
    refine sy_iload X d_E_word_14 hl 5 rfl ?_
    refine sy_if_lt (tgt := 26) X d_E_word_16 (by decide) ⟨by omega, by omega⟩ (fun c2 => ?_) (fun c2 => ?_)
    · refine sy_ldc2 (z := -3) X (tt_of k476 rfl) d_E_word_26 (by decide) ?_
      exact kr (-3, z1) _ _ _ _ _ d_E_word_29 hw (Or.inr (Or.inl ⟨hok, by omega, hk1, rfl⟩)) rfl
    · refine sy_iload X d_E_word_19 hl 5 rfl ?_
      refine sy_bipush X d_E_word_21 (by decide) ?_
      refine sy_icmp_le (tgt := 30) X d_E_word_23 (by decide) ⟨by omega, by omega⟩ ⟨by omega, by omega⟩ (fun c3 => ?_) (fun c3 => ?_)
      · obtain ⟨kn, rfl⟩ : ∃ kn : Nat, kk = (kn : Int) := ⟨kk.toNat, by omega⟩
        refine sy_aload_n X d_E_word_30 hl 0 rfl ?_
        refine call_Vv (Xs := []) (b := ad 5 0) (As := []) (rest := []) X lk_E_129 (c_E_reduce l D cs ad E O P z1 r159 u160 n3) ⟨by decide, by decide⟩ (rcv_E) hw rfl hl.1 (Nat.le_of_ble_eq_true rfl) d_E_word_31 rfl rfl ⟨Nat.zero_le _, Nat.zero_le _⟩ (fun z2 H locs hp2 hw => ?_)
        obtain ⟨k5, ⟨h27, h28⟩, u27, u28⟩ := hp2
        rw [hz7, hz8] at h27 h28
        have k6 : KeepZ z z2 := fun k hk => by rw [k5 k hk]; exact hk1 k hk
        refine sy_iload X d_E_word_34 hl 4 rfl ?_
        refine sy_if_eq (tgt := 51) X d_E_word_36 (by decide) ⟨by omega, by omega⟩ (fun c4 => ?_) (fun c4 => ?_)
        · refine sy_aload_n X d_E_word_51 hl 0 rfl ?_
          refine e_get X hw 10 (by decide) rfl (tt_of k208 rfl) d_E_word_52 ?_
          refine sy_iload X d_E_word_55 hl 5 rfl ?_
          have hw := hw.ofE
          refine call_Vj (Xs := XE ad cs E ++ XC ad O P) (b := ad 0 117) (As := [.int (iI ((kn : Nat) : Int))]) (rest := []) X lk_E_139 (c_W_limb l D cs ad z2 117 kn (by decide) (by omega) u27) ⟨by decide, by decide⟩ (rcv_Z (by omega)) hw rfl hl.1 (Nat.le_of_ble_eq_true rfl) d_E_word_57 rfl rfl ⟨Nat.zero_le _, Nat.zero_le _⟩ (fun _ H locs _ hw => ?_)
          have hw := hw.toE
          exact kr (z2 117 / 2 ^ (32 * kn) % 4294967296, z2) _ _ _ _ _ d_E_word_60 hw (Or.inr (Or.inr ⟨hok, by omega, k6, by show z2 117 / _ % _ = _; rw [Int.toNat_natCast]; rw [if_pos (by omega), h27]⟩)) rfl
        · refine sy_aload_n X d_E_word_39 hl 0 rfl ?_
          refine e_get X hw 11 (by decide) rfl (tt_of k209 rfl) d_E_word_40 ?_
          refine sy_iload X d_E_word_43 hl 5 rfl ?_
          have hw := hw.ofE
          refine call_Vj (Xs := XE ad cs E ++ XC ad O P) (b := ad 0 118) (As := [.int (iI ((kn : Nat) : Int))]) (rest := []) X lk_E_139 (c_W_limb l D cs ad z2 118 kn (by decide) (by omega) u28) ⟨by decide, by decide⟩ (rcv_Z (by omega)) hw rfl hl.1 (Nat.le_of_ble_eq_true rfl) d_E_word_45 rfl rfl ⟨Nat.zero_le _, Nat.zero_le _⟩ (fun _ H locs _ hw => ?_)
          have hw := hw.toE
          refine sy_goto (tgt := 60) X d_E_word_48 (by decide) ?_
          exact kr (z2 118 / 2 ^ (32 * kn) % 4294967296, z2) _ _ _ _ _ d_E_word_60 hw (Or.inr (Or.inr ⟨hok, by omega, k6, by show z2 118 / _ % _ = _; rw [Int.toNat_natCast]; rw [if_neg (by omega), ← h28, Int.natAbs_of_nonneg u28.1]⟩)) rfl
      · refine sy_ldc2 (z := -3) X (tt_of k476 rfl) d_E_word_26 (by decide) ?_
        exact kr (-3, z1) _ _ _ _ _ d_E_word_29 hw (Or.inr (Or.inl ⟨hok, by omega, hk1, rfl⟩)) rfl
  · refine sy_ldc2 (z := -2) X (tt_of k475 rfl) d_E_word_10 (by decide) ?_
    have hno : ¬ okQ t q kd tt e0 ∧ (fd, z1) = (0, z) := by
      rcases hp with h | ⟨-, h, -⟩
      · exact h
      · omega
    have hz1 := (Prod.mk.inj hno.2).2
    rw [hz1] at hw
    exact kr (-2, z) _ _ _ _ _ d_E_word_13 hw (Or.inl ⟨hno.1, rfl⟩) rfl
