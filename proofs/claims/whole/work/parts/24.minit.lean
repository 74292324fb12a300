theorem sy_ifb_eq {p : Program} {l : Launch} {e : Env} {R : Room} {s : State} {m : MethodId} {args : Array Value} {below : List Frame} {meth : Method} {c : Code} {H : Heap} {locs : List Loc} {cells slots : Nat} {Q : State → Prop} {D : va_G} {tys : List (ClassId × FieldType)} {own : String} {cc : ByteArray} {nL : Nat} {pc : Nat} {ls : Array Slot} {rest : List Value} {P : Prop} [Decidable P] {off : Int} {tgt : Nat} (X : CX D tys own cc nL p m c s args) (hd : decode cc pc = .ok (.ifCond .eq off, 3)) (ht : (pc : Int) + off = (tgt : Int)) (kt : ¬ P → W p l e R s m args below meth c H locs cells slots Q (F0 m tgt ls rest)) (kf : P → W p l e R s m args below meth c H locs cells slots Q (F0 m (pc + 3) ls rest)) : W p l e R s m args below meth c H locs cells slots Q (F0 m pc ls (.int (iI (if P then 1 else 0)) :: rest)) := by
  refine sy_if_eq X hd ht (by split <;> exact ⟨by decide, by decide⟩) (fun h => kt (fun g => ?_)) (fun h => kf ?_)
  · rw [if_pos g] at h; omega
  · by_cases g : P
    · exact g
    · rw [if_neg g] at h; omega
theorem sy_ifb_ne {p : Program} {l : Launch} {e : Env} {R : Room} {s : State} {m : MethodId} {args : Array Value} {below : List Frame} {meth : Method} {c : Code} {H : Heap} {locs : List Loc} {cells slots : Nat} {Q : State → Prop} {D : va_G} {tys : List (ClassId × FieldType)} {own : String} {cc : ByteArray} {nL : Nat} {pc : Nat} {ls : Array Slot} {rest : List Value} {P : Prop} [Decidable P] {off : Int} {tgt : Nat} (X : CX D tys own cc nL p m c s args) (hd : decode cc pc = .ok (.ifCond .ne off, 3)) (ht : (pc : Int) + off = (tgt : Int)) (kt : P → W p l e R s m args below meth c H locs cells slots Q (F0 m tgt ls rest)) (kf : ¬ P → W p l e R s m args below meth c H locs cells slots Q (F0 m (pc + 3) ls rest)) : W p l e R s m args below meth c H locs cells slots Q (F0 m pc ls (.int (iI (if P then 1 else 0)) :: rest)) := by
  refine sy_if_ne X hd ht (by split <;> exact ⟨by decide, by decide⟩) (fun h => kt ?_) (fun h => kf (fun g => ?_))
  · by_cases g : P
    · exact g
    · rw [if_neg g] at h; omega
  · rw [if_pos g] at h; omega
theorem mul_rng {x y a b : Int} (hx : -a ≤ x ∧ x ≤ a) (hy : -b ≤ y ∧ y ≤ b) : -(a * b) ≤ x * y ∧ x * y ≤ a * b := by
  have h1 : (x * y).natAbs = x.natAbs * y.natAbs := Int.natAbs_mul x y
  have h2 : x.natAbs * y.natAbs ≤ a.toNat * b.toNat := Nat.mul_le_mul (by omega) (by omega)
  have h3 : ((a.toNat * b.toNat : Nat) : Int) = a * b := by
    have e1 : ((a.toNat : Nat) : Int) = a := by omega
    have e2 : ((b.toNat : Nat) : Int) = b := by omega
    rw [Int.natCast_mul, e1, e2]
  rw [← h1] at h2
  have h4 : (((x * y).natAbs : Nat) : Int) ≤ a * b := by rw [← h3]; exact Int.ofNat_le.mpr h2
  omega
theorem mul99 {x y : Int} (hx : -99 ≤ x ∧ x ≤ 99) (hy : -99 ≤ y ∧ y ≤ 99) : -9801 ≤ x * y ∧ x * y ≤ 9801 := mul_rng hx hy
set_option maxRecDepth 100000 in
set_option maxHeartbeats 4000000 in
theorem c_M_bound (l : Launch) (D : va_G) (cs : Nat → ClassId) (ws : va_W) (x k : Int) (hx : R31 x) (hk : 0 ≤ k ∧ k ≤ 1000) : Ct (S := Unit) l D (tyL cs) y_M_bound b_M_bound 2 (some .boolean) (rm 1) [.int (iI x), .int (iI k)] (ws) (fun _ => True) (fun _ => some (.int (iI (if -k ≤ x ∧ x ≤ k then 1 else 0)))) (fun _ => ws) := by
  refine Ct.introZ (by decide) (Nat.le_of_ble_eq_true rfl) ?_
  intro p e s m below meth c A args Q H locs X hnm hw kr ls hl
  have X : CX D (tyL cs) R_M b_M_bound 2 p m c s args := X
  have hl : lv_has ls 2 [(0, .int (iI x)), (1, .int (iI k))] := hl
  refine sy_iload_n X d_M_bound_0 hl 0 rfl ?_
  refine sy_iload_n X d_M_bound_1 hl 1 rfl ?_
  refine sy_ineg X d_M_bound_2 ?_
  refine sy_icmp_lt (tgt := 15) X d_M_bound_3 (by decide) hx ⟨by omega, by omega⟩ (fun c1 => ?_) (fun c1 => ?_)
  · refine sy_iconst X d_M_bound_15 ?_
    exact kr () _ _ _ _ _ d_M_bound_16 hw trivial (by split <;> first | rfl | (exfalso; omega)) (by first | rfl | decide)
  · refine sy_iload_n X d_M_bound_6 hl 0 rfl ?_
    refine sy_iload_n X d_M_bound_7 hl 1 rfl ?_
    refine sy_icmp_gt (tgt := 15) X d_M_bound_8 (by decide) hx ⟨by omega, by omega⟩ (fun c2 => ?_) (fun c2 => ?_)
    · refine sy_iconst X d_M_bound_15 ?_
      exact kr () _ _ _ _ _ d_M_bound_16 hw trivial (by split <;> first | rfl | (exfalso; omega)) (by first | rfl | decide)
    · refine sy_iconst X d_M_bound_11 ?_
      refine sy_goto (tgt := 16) X d_M_bound_12 (by decide) ?_
      exact kr () _ _ _ _ _ d_M_bound_16 hw trivial (by split <;> first | rfl | (exfalso; omega)) (by first | rfl | decide)
set_option maxRecDepth 100000 in
set_option maxHeartbeats 4000000 in
theorem c_M_positive (l : Launch) (D : va_G) (cs : Nat → ClassId) (ws : va_W) (x y z : Int) (hx : -99 ≤ x ∧ x ≤ 99) (hy : -99 ≤ y ∧ y ≤ 99) (hz : -99 ≤ z ∧ z ≤ 99) : Ct (S := Unit) l D (tyL cs) y_M_positive b_M_positive 3 (some .boolean) (rm 1) [.int (iI x), .int (iI y), .int (iI z)] (ws) (fun _ => True) (fun _ => some (.int (iI (if 0 < x ∧ y * y < x * z then 1 else 0)))) (fun _ => ws) := by
  refine Ct.introZ (by decide) (Nat.le_of_ble_eq_true rfl) ?_
  intro p e s m below meth c A args Q H locs X hnm hw kr ls hl
  have X : CX D (tyL cs) R_M b_M_positive 3 p m c s args := X
  have hl : lv_has ls 3 [(0, .int (iI x)), (1, .int (iI y)), (2, .int (iI z))] := hl
  have hxz := mul99 hx hz
  have hyy := mul99 hy hy
  refine sy_iload_n X d_M_positive_0 hl 0 rfl ?_
  refine sy_if_le (tgt := 17) X d_M_positive_1 (by decide) ⟨by omega, by omega⟩ (fun c1 => ?_) (fun c1 => ?_)
  · refine sy_iconst X d_M_positive_17 ?_
    exact kr () _ _ _ _ _ d_M_positive_18 hw trivial (by split <;> first | rfl | (exfalso; omega)) (by first | rfl | decide)
  · refine sy_iload_n X d_M_positive_4 hl 0 rfl ?_
    refine sy_iload_n X d_M_positive_5 hl 2 rfl ?_
    refine sy_imul X d_M_positive_6 ?_
    refine sy_iload_n X d_M_positive_7 hl 1 rfl ?_
    refine sy_iload_n X d_M_positive_8 hl 1 rfl ?_
    refine sy_imul X d_M_positive_9 ?_
    refine sy_icmp_le (tgt := 17) X d_M_positive_10 (by decide) ⟨by omega, by omega⟩ ⟨by omega, by omega⟩ (fun c2 => ?_) (fun c2 => ?_)
    · refine sy_iconst X d_M_positive_17 ?_
      exact kr () _ _ _ _ _ d_M_positive_18 hw trivial (by split <;> first | rfl | (exfalso; omega)) (by first | rfl | decide)
    · refine sy_iconst X d_M_positive_13 ?_
      refine sy_goto (tgt := 18) X d_M_positive_14 (by decide) ?_
      exact kr () _ _ _ _ _ d_M_positive_18 hw trivial (by split <;> first | rfl | (exfalso; omega)) (by first | rfl | decide)
set_option maxRecDepth 100000 in
set_option maxHeartbeats 4000000 in
theorem c_E_within (l : Launch) (D : va_G) (cs : Nat → ClassId) (ws : va_W) (x k : Int) (hx : R31 x) (hk : 0 ≤ k ∧ k ≤ 1000) : Ct (S := Unit) l D (tyL cs) y_E_within b_E_within 2 (some .boolean) (rm 1) [.int (iI x), .int (iI k)] (ws) (fun _ => True) (fun _ => some (.int (iI (if -k ≤ x ∧ x ≤ k then 1 else 0)))) (fun _ => ws) := by
  refine Ct.introZ (by decide) (Nat.le_of_ble_eq_true rfl) ?_
  intro p e s m below meth c A args Q H locs X hnm hw kr ls hl
  have X : CX D (tyL cs) R_E b_E_within 2 p m c s args := X
  have hl : lv_has ls 2 [(0, .int (iI x)), (1, .int (iI k))] := hl
  refine sy_iload_n X d_E_within_0 hl 0 rfl ?_
  refine sy_iload_n X d_E_within_1 hl 1 rfl ?_
  refine sy_ineg X d_E_within_2 ?_
  refine sy_icmp_lt (tgt := 15) X d_E_within_3 (by decide) hx ⟨by omega, by omega⟩ (fun c1 => ?_) (fun c1 => ?_)
  · refine sy_iconst X d_E_within_15 ?_
    exact kr () _ _ _ _ _ d_E_within_16 hw trivial (by split <;> first | rfl | (exfalso; omega)) (by first | rfl | decide)
  · refine sy_iload_n X d_E_within_6 hl 0 rfl ?_
    refine sy_iload_n X d_E_within_7 hl 1 rfl ?_
    refine sy_icmp_gt (tgt := 15) X d_E_within_8 (by decide) hx ⟨by omega, by omega⟩ (fun c2 => ?_) (fun c2 => ?_)
    · refine sy_iconst X d_E_within_15 ?_
      exact kr () _ _ _ _ _ d_E_within_16 hw trivial (by split <;> first | rfl | (exfalso; omega)) (by first | rfl | decide)
    · refine sy_iconst X d_E_within_11 ?_
      refine sy_goto (tgt := 16) X d_E_within_12 (by decide) ?_
      exact kr () _ _ _ _ _ d_E_within_16 hw trivial (by split <;> first | rfl | (exfalso; omega)) (by first | rfl | decide)
set_option maxRecDepth 100000 in
set_option maxHeartbeats 4000000 in
theorem c_E_isPositive (l : Launch) (D : va_G) (cs : Nat → ClassId) (ws : va_W) (x y z : Int) (hx : -99 ≤ x ∧ x ≤ 99) (hy : -99 ≤ y ∧ y ≤ 99) (hz : -99 ≤ z ∧ z ≤ 99) : Ct (S := Unit) l D (tyL cs) y_E_isPositive b_E_isPositive 3 (some .boolean) (rm 1) [.int (iI x), .int (iI y), .int (iI z)] (ws) (fun _ => True) (fun _ => some (.int (iI (if 0 < x ∧ y * y < x * z then 1 else 0)))) (fun _ => ws) := by
  refine Ct.introZ (by decide) (Nat.le_of_ble_eq_true rfl) ?_
  intro p e s m below meth c A args Q H locs X hnm hw kr ls hl
  have X : CX D (tyL cs) R_E b_E_isPositive 3 p m c s args := X
  have hl : lv_has ls 3 [(0, .int (iI x)), (1, .int (iI y)), (2, .int (iI z))] := hl
  have hxz := mul99 hx hz
  have hyy := mul99 hy hy
  refine sy_iload_n X d_E_isPositive_0 hl 0 rfl ?_
  refine sy_if_le (tgt := 17) X d_E_isPositive_1 (by decide) ⟨by omega, by omega⟩ (fun c1 => ?_) (fun c1 => ?_)
  · refine sy_iconst X d_E_isPositive_17 ?_
    exact kr () _ _ _ _ _ d_E_isPositive_18 hw trivial (by split <;> first | rfl | (exfalso; omega)) (by first | rfl | decide)
  · refine sy_iload_n X d_E_isPositive_4 hl 0 rfl ?_
    refine sy_iload_n X d_E_isPositive_5 hl 2 rfl ?_
    refine sy_imul X d_E_isPositive_6 ?_
    refine sy_iload_n X d_E_isPositive_7 hl 1 rfl ?_
    refine sy_iload_n X d_E_isPositive_8 hl 1 rfl ?_
    refine sy_imul X d_E_isPositive_9 ?_
    refine sy_icmp_le (tgt := 17) X d_E_isPositive_10 (by decide) ⟨by omega, by omega⟩ ⟨by omega, by omega⟩ (fun c2 => ?_) (fun c2 => ?_)
    · refine sy_iconst X d_E_isPositive_17 ?_
      exact kr () _ _ _ _ _ d_E_isPositive_18 hw trivial (by split <;> first | rfl | (exfalso; omega)) (by first | rfl | decide)
    · refine sy_iconst X d_E_isPositive_13 ?_
      refine sy_goto (tgt := 18) X d_E_isPositive_14 (by decide) ?_
      exact kr () _ _ _ _ _ d_E_isPositive_18 hw trivial (by split <;> first | rfl | (exfalso; omega)) (by first | rfl | decide)
set_option maxRecDepth 100000 in
set_option maxHeartbeats 4000000 in
theorem c_M_begin (l : Launch) (D : va_G) (cs : Nat → ClassId) (ad : Nat → Nat) (M : Nat → Nat → Int) (N : Nat → Int) (a0 a1 b0 b1 b2 : Int) (h0 : R31 a0) (h1 : R31 a1) (h2 : R31 b0) (h3 : R31 b1) (h4 : R31 b2) (hR : Rep M N) : Ct (S := Nat → Nat → Int) l D (tyL cs) y_M_begin b_M_begin 6 none (rm 3) [.ref (ad 0), .int (iI a0), .int (iI a1), .int (iI b0), .int (iI b1), .int (iI b2)] (wM ad cs M) (fun M1 => ∃ N1, Rep M1 N1 ∧ (M1 0 0 = 0 ∧ M1 0 1 = 0 ∧ M1 0 2 = 0) ∧ (M1 6 = M 6 ∧ M1 7 = M 7) ∧ (N1 0 = a0 ∧ N1 1 = a1 ∧ N1 2 = b0 ∧ N1 3 = b1 ∧ N1 4 = b2 ∧ N1 5 = 1) ∧ ∀ i, i < 6 → N1 (24 + i) = N1 i) (fun _ => none) (fun M1 => wM ad cs M1) := by
  refine Ct.introV (by decide) (Nat.le_of_ble_eq_true rfl) (fun _ => rfl) ?_
  intro p e s m below meth c A args Q H locs X hnm hw kr ls hl
  have X : CX D (tyL cs) R_M b_M_begin 6 p m c s args := X
  have hl : lv_has ls 6 [(0, .ref (ad 0)), (1, .int (iI a0)), (2, .int (iI a1)), (3, .int (iI b0)), (4, .int (iI b1)), (5, .int (iI b2))] := hl
  refine sy_aload_n X d_M_begin_0 hl 0 rfl ?_
  refine sy_iconst X d_M_begin_1 ?_
  refine m_put X hw 0 (by decide) (tt_of k514 rfl) d_M_begin_2 (fun H locs hw => ?_)
  refine sy_aload_n X d_M_begin_5 hl 0 rfl ?_
  refine sy_iconst X d_M_begin_6 ?_
  refine m_put X hw 1 (by decide) (tt_of k515 rfl) d_M_begin_7 (fun H locs hw => ?_)
  refine sy_aload_n X d_M_begin_10 hl 0 rfl ?_
  refine sy_iconst X d_M_begin_11 ?_
  refine m_putz X hw (by decide) (tt_of k516 rfl) d_M_begin_12 (fun H locs hw => ?_)
  refine sy_aload_n X d_M_begin_15 hl 0 rfl ?_
  refine sy_iconst X d_M_begin_16 ?_
  refine sy_iload_n X d_M_begin_17 hl 1 rfl ?_
  obtain ⟨A0, eA0⟩ : ∃ g, g = up2 (up2 (up2 M 0 0 0) 0 1 0) 0 2 0 := ⟨_, rfl⟩
  rw [← eA0] at hw
  have hR0 : Rep A0 N := by rw [eA0]; exact hR
  refine call_Vv (Xs := []) (b := ad 0) (As := [.int (iI 0), .int (iI a0)]) (rest := []) X lk_M_101 (c_M_put l D cs ad A0 N 0 a0 (by decide) h0 hR0) ⟨by decide, by decide⟩ rcv_M hw rfl hl.1 (Nat.le_of_ble_eq_true rfl) d_M_begin_18 rfl rfl ⟨Nat.zero_le _, Nat.zero_le _⟩ (fun A1 H locs p1 hw => ?_)
  obtain ⟨B1, eB1⟩ : ∃ g, g = up1 N 0 a0 := ⟨_, rfl⟩
  rw [← eB1] at p1
  refine sy_aload_n X d_M_begin_21 hl 0 rfl ?_
  refine sy_iconst X d_M_begin_22 ?_
  refine sy_iload_n X d_M_begin_23 hl 2 rfl ?_
  refine call_Vv (Xs := []) (b := ad 0) (As := [.int (iI 1), .int (iI a1)]) (rest := []) X lk_M_101 (c_M_put l D cs ad A1 B1 1 a1 (by decide) h1 p1.1) ⟨by decide, by decide⟩ rcv_M hw rfl hl.1 (Nat.le_of_ble_eq_true rfl) d_M_begin_24 rfl rfl ⟨Nat.zero_le _, Nat.zero_le _⟩ (fun A2 H locs p2 hw => ?_)
  obtain ⟨B2, eB2⟩ : ∃ g, g = up1 B1 1 a1 := ⟨_, rfl⟩
  rw [← eB2] at p2
  refine sy_aload_n X d_M_begin_27 hl 0 rfl ?_
  refine sy_iconst X d_M_begin_28 ?_
  refine sy_iload_n X d_M_begin_29 hl 3 rfl ?_
  refine call_Vv (Xs := []) (b := ad 0) (As := [.int (iI 2), .int (iI b0)]) (rest := []) X lk_M_101 (c_M_put l D cs ad A2 B2 2 b0 (by decide) h2 p2.1) ⟨by decide, by decide⟩ rcv_M hw rfl hl.1 (Nat.le_of_ble_eq_true rfl) d_M_begin_30 rfl rfl ⟨Nat.zero_le _, Nat.zero_le _⟩ (fun A3 H locs p3 hw => ?_)
  obtain ⟨B3, eB3⟩ : ∃ g, g = up1 B2 2 b0 := ⟨_, rfl⟩
  rw [← eB3] at p3
  refine sy_aload_n X d_M_begin_33 hl 0 rfl ?_
  refine sy_iconst X d_M_begin_34 ?_
  refine sy_iload X d_M_begin_35 hl 4 rfl ?_
  refine call_Vv (Xs := []) (b := ad 0) (As := [.int (iI 3), .int (iI b1)]) (rest := []) X lk_M_101 (c_M_put l D cs ad A3 B3 3 b1 (by decide) h3 p3.1) ⟨by decide, by decide⟩ rcv_M hw rfl hl.1 (Nat.le_of_ble_eq_true rfl) d_M_begin_37 rfl rfl ⟨Nat.zero_le _, Nat.zero_le _⟩ (fun A4 H locs p4 hw => ?_)
  obtain ⟨B4, eB4⟩ : ∃ g, g = up1 B3 3 b1 := ⟨_, rfl⟩
  rw [← eB4] at p4
  refine sy_aload_n X d_M_begin_40 hl 0 rfl ?_
  refine sy_iconst X d_M_begin_41 ?_
  refine sy_iload X d_M_begin_42 hl 5 rfl ?_
  refine call_Vv (Xs := []) (b := ad 0) (As := [.int (iI 4), .int (iI b2)]) (rest := []) X lk_M_101 (c_M_put l D cs ad A4 B4 4 b2 (by decide) h4 p4.1) ⟨by decide, by decide⟩ rcv_M hw rfl hl.1 (Nat.le_of_ble_eq_true rfl) d_M_begin_44 rfl rfl ⟨Nat.zero_le _, Nat.zero_le _⟩ (fun A5 H locs p5 hw => ?_)
  obtain ⟨B5, eB5⟩ : ∃ g, g = up1 B4 4 b2 := ⟨_, rfl⟩
  rw [← eB5] at p5
  refine sy_aload_n X d_M_begin_47 hl 0 rfl ?_
  refine sy_iconst X d_M_begin_48 ?_
  refine sy_iconst X d_M_begin_49 ?_
  refine call_Vv (Xs := []) (b := ad 0) (As := [.int (iI 5), .int (iI 1)]) (rest := []) X lk_M_101 (c_M_put l D cs ad A5 B5 5 1 (by decide) ⟨by decide, by decide⟩ p5.1) ⟨by decide, by decide⟩ rcv_M hw rfl hl.1 (Nat.le_of_ble_eq_true rfl) d_M_begin_50 rfl rfl ⟨Nat.zero_le _, Nat.zero_le _⟩ (fun A6 H locs p6 hw => ?_)
  obtain ⟨B6, eB6⟩ : ∃ g, g = up1 B5 5 1 := ⟨_, rfl⟩
  rw [← eB6] at p6
  refine sy_aload_n X d_M_begin_53 hl 0 rfl ?_
  refine sy_bipush X d_M_begin_54 (by decide) ?_
  refine sy_iconst X d_M_begin_56 ?_
  refine call_Vv (Xs := []) (b := ad 0) (As := [.int (iI 24), .int (iI 0)]) (rest := []) X lk_M_104 (c_M_keep l D cs ad A6 B6 24 0 (by decide) (by decide) (by decide) p6.1) ⟨by decide, by decide⟩ rcv_M hw rfl hl.1 (Nat.le_of_ble_eq_true rfl) d_M_begin_57 rfl rfl ⟨Nat.zero_le _, Nat.zero_le _⟩ (fun A7 H locs p7 hw => ?_)
  obtain ⟨N1, g1, g2, g3⟩ := p7
  have hS : Sm A0 A7 := (((((p1.2.tr p2.2).tr p3.2).tr p4.2).tr p5.2).tr p6.2).tr g2
  obtain ⟨s0, s6, s7, s8⟩ := hS
  refine kr _ _ _ _ _ d_M_begin_60 hw ⟨N1, g1, ⟨?_, ?_, ?_⟩, ⟨?_, ?_⟩, ⟨?_, ?_, ?_, ?_, ?_, ?_⟩, fun i hi => ?_⟩
  · rw [s0, eA0]; rfl
  · rw [s0, eA0]; rfl
  · rw [s0, eA0]; rfl
  · rw [s6, eA0]; rfl
  · rw [s7, eA0]; rfl
  · rw [g3, if_neg (by decide)]; simp [eB6, eB5, eB4, eB3, eB2, eB1, up1]
  · rw [g3, if_neg (by decide)]; simp [eB6, eB5, eB4, eB3, eB2, eB1, up1]
  · rw [g3, if_neg (by decide)]; simp [eB6, eB5, eB4, eB3, eB2, eB1, up1]
  · rw [g3, if_neg (by decide)]; simp [eB6, eB5, eB4, eB3, eB2, eB1, up1]
  · rw [g3, if_neg (by decide)]; simp [eB6, eB5, eB4, eB3, eB2, eB1, up1]
  · rw [g3, if_neg (by decide)]; simp [eB6, eB5, eB4, eB3, eB2, eB1, up1]
  · rw [g3, if_pos (by omega), g3 i, if_neg (by omega)]; congr 1; omega
def okI (a0 a1 b0 b1 b2 : Int) : Prop := (-99 ≤ a0 ∧ a0 ≤ 99) ∧ (-99 ≤ a1 ∧ a1 ≤ 99) ∧ (-99 ≤ b0 ∧ b0 ≤ 99) ∧ (-99 ≤ b1 ∧ b1 ≤ 99) ∧ (-99 ≤ b2 ∧ b2 ≤ 99)
def okC (b0 b1 b2 : Int) : Prop := (-99 ≤ b0 ∧ b0 ≤ 99) ∧ (-99 ≤ b1 ∧ b1 ≤ 99) ∧ (-99 ≤ b2 ∧ b2 ≤ 99)
def Pd (x y z : Int) : Prop := 0 < x ∧ y * y < x * z
def Begun (M M1 : Nat → Nat → Int) (a0 a1 b0 b1 b2 : Int) : Prop := ∃ N1, Rep M1 N1 ∧ (M1 0 0 = 0 ∧ M1 0 1 = 0 ∧ M1 0 2 = 0) ∧ (M1 6 = M 6 ∧ M1 7 = M 7) ∧ (N1 0 = a0 ∧ N1 1 = a1 ∧ N1 2 = b0 ∧ N1 3 = b1 ∧ N1 4 = b2 ∧ N1 5 = 1) ∧ ∀ i, i < 6 → N1 (24 + i) = N1 i
set_option maxRecDepth 100000 in
set_option maxHeartbeats 4000000 in
theorem c_M_initial (l : Launch) (D : va_G) (cs : Nat → ClassId) (ad : Nat → Nat) (M : Nat → Nat → Int) (N : Nat → Int) (a0 a1 b0 b1 b2 : Int) (h0 : R31 a0) (h1 : R31 a1) (h2 : R31 b0) (h3 : R31 b1) (h4 : R31 b2) (hR : Rep M N) : Ct (S := Int × (Nat → Nat → Int)) l D (tyL cs) y_M_initial b_M_initial 6 (some .int) (rm 4) [.ref (ad 0), .int (iI a0), .int (iI a1), .int (iI b0), .int (iI b1), .int (iI b2)] (wM ad cs M) (fun u => (¬ okI a0 a1 b0 b1 b2 ∧ u = (-3, M)) ∨ (okI a0 a1 b0 b1 b2 ∧ ¬ Pd b0 b1 b2 ∧ u = (-4, M)) ∨ (okI a0 a1 b0 b1 b2 ∧ Pd b0 b1 b2 ∧ u.1 = 0 ∧ Begun M u.2 a0 a1 b0 b1 b2)) (fun u => some (.int (iI u.1))) (fun u => wM ad cs u.2) := by
  refine Ct.introI (by decide) (Nat.le_of_ble_eq_true rfl) ?_
  intro p e s m below meth c A args Q H locs X hnm hw kr ls hl
  have X : CX D (tyL cs) R_M b_M_initial 6 p m c s args := X
  have hl : lv_has ls 6 [(0, .ref (ad 0)), (1, .int (iI a0)), (2, .int (iI a1)), (3, .int (iI b0)), (4, .int (iI b1)), (5, .int (iI b2))] := hl
  refine sy_iload_n X d_M_initial_0 hl 1 rfl ?_
  refine sy_bipush X d_M_initial_1 (by decide) ?_
  refine call_Si (Xs := []) (As := [.int (iI a0), .int (iI 99)]) (rest := []) X lk_M_107 (c_M_bound l D cs (wM ad cs M) a0 99 h0 (by decide)) ⟨by decide, by decide⟩ hw rfl hl.1 (Nat.le_of_ble_eq_true rfl) d_M_initial_3 rfl rfl ⟨Nat.zero_le _, Nat.zero_le _⟩ (fun _ H locs _ hw => ?_)
  refine sy_ifb_eq (tgt := 47) X d_M_initial_6 (by decide) (fun c1 => ?_) (fun c1 => ?_)
  · refine sy_bipush X d_M_initial_47 (by decide) ?_
    exact kr (-3, M) _ _ _ _ _ d_M_initial_49 hw (Or.inl ⟨fun h => by simp only [okI] at h; omega, rfl⟩) rfl
  · refine sy_iload_n X d_M_initial_9 hl 2 rfl ?_
    refine sy_bipush X d_M_initial_10 (by decide) ?_
    refine call_Si (Xs := []) (As := [.int (iI a1), .int (iI 99)]) (rest := []) X lk_M_107 (c_M_bound l D cs (wM ad cs M) a1 99 h1 (by decide)) ⟨by decide, by decide⟩ hw rfl hl.1 (Nat.le_of_ble_eq_true rfl) d_M_initial_12 rfl rfl ⟨Nat.zero_le _, Nat.zero_le _⟩ (fun _ H locs _ hw => ?_)
    refine sy_ifb_eq (tgt := 47) X d_M_initial_15 (by decide) (fun c2 => ?_) (fun c2 => ?_)
    · refine sy_bipush X d_M_initial_47 (by decide) ?_
      exact kr (-3, M) _ _ _ _ _ d_M_initial_49 hw (Or.inl ⟨fun h => by simp only [okI] at h; omega, rfl⟩) rfl
    · refine sy_iload_n X d_M_initial_18 hl 3 rfl ?_
      refine sy_bipush X d_M_initial_19 (by decide) ?_
      refine call_Si (Xs := []) (As := [.int (iI b0), .int (iI 99)]) (rest := []) X lk_M_107 (c_M_bound l D cs (wM ad cs M) b0 99 h2 (by decide)) ⟨by decide, by decide⟩ hw rfl hl.1 (Nat.le_of_ble_eq_true rfl) d_M_initial_21 rfl rfl ⟨Nat.zero_le _, Nat.zero_le _⟩ (fun _ H locs _ hw => ?_)
      refine sy_ifb_eq (tgt := 47) X d_M_initial_24 (by decide) (fun c3 => ?_) (fun c3 => ?_)
      · refine sy_bipush X d_M_initial_47 (by decide) ?_
        exact kr (-3, M) _ _ _ _ _ d_M_initial_49 hw (Or.inl ⟨fun h => by simp only [okI] at h; omega, rfl⟩) rfl
      · refine sy_iload X d_M_initial_27 hl 4 rfl ?_
        refine sy_bipush X d_M_initial_29 (by decide) ?_
        refine call_Si (Xs := []) (As := [.int (iI b1), .int (iI 99)]) (rest := []) X lk_M_107 (c_M_bound l D cs (wM ad cs M) b1 99 h3 (by decide)) ⟨by decide, by decide⟩ hw rfl hl.1 (Nat.le_of_ble_eq_true rfl) d_M_initial_31 rfl rfl ⟨Nat.zero_le _, Nat.zero_le _⟩ (fun _ H locs _ hw => ?_)
        refine sy_ifb_eq (tgt := 47) X d_M_initial_34 (by decide) (fun c4 => ?_) (fun c4 => ?_)
        · refine sy_bipush X d_M_initial_47 (by decide) ?_
          exact kr (-3, M) _ _ _ _ _ d_M_initial_49 hw (Or.inl ⟨fun h => by simp only [okI] at h; omega, rfl⟩) rfl
        · refine sy_iload X d_M_initial_37 hl 5 rfl ?_
          refine sy_bipush X d_M_initial_39 (by decide) ?_
          refine call_Si (Xs := []) (As := [.int (iI b2), .int (iI 99)]) (rest := []) X lk_M_107 (c_M_bound l D cs (wM ad cs M) b2 99 h4 (by decide)) ⟨by decide, by decide⟩ hw rfl hl.1 (Nat.le_of_ble_eq_true rfl) d_M_initial_41 rfl rfl ⟨Nat.zero_le _, Nat.zero_le _⟩ (fun _ H locs _ hw => ?_)
          refine sy_ifb_ne (tgt := 50) X d_M_initial_44 (by decide) (fun c5 => ?_) (fun c5 => ?_)
          · refine sy_iload_n X d_M_initial_50 hl 3 rfl ?_
            refine sy_iload X d_M_initial_51 hl 4 rfl ?_
            refine sy_iload X d_M_initial_53 hl 5 rfl ?_
            refine call_Si (Xs := []) (As := [.int (iI b0), .int (iI b1), .int (iI b2)]) (rest := []) X lk_M_110 (c_M_positive l D cs (wM ad cs M) b0 b1 b2 (by omega) (by omega) (by omega)) ⟨by decide, by decide⟩ hw rfl hl.1 (Nat.le_of_ble_eq_true rfl) d_M_initial_55 rfl rfl ⟨Nat.zero_le _, Nat.zero_le _⟩ (fun _ H locs _ hw => ?_)
            refine sy_ifb_ne (tgt := 64) X d_M_initial_58 (by decide) (fun c6 => ?_) (fun c6 => ?_)
            · refine sy_aload_n X d_M_initial_64 hl 0 rfl ?_
              refine sy_iload_n X d_M_initial_65 hl 1 rfl ?_
              refine sy_iload_n X d_M_initial_66 hl 2 rfl ?_
              refine sy_iload_n X d_M_initial_67 hl 3 rfl ?_
              refine sy_iload X d_M_initial_68 hl 4 rfl ?_
              refine sy_iload X d_M_initial_70 hl 5 rfl ?_
              refine call_Vv (Xs := []) (b := ad 0) (As := [.int (iI a0), .int (iI a1), .int (iI b0), .int (iI b1), .int (iI b2)]) (rest := []) X lk_M_34 (c_M_begin l D cs ad M N a0 a1 b0 b1 b2 h0 h1 h2 h3 h4 hR) ⟨by decide, by decide⟩ rcv_M hw rfl hl.1 (Nat.le_of_ble_eq_true rfl) d_M_initial_72 rfl rfl ⟨Nat.zero_le _, Nat.zero_le _⟩ (fun M1 H locs hp hw => ?_)
              refine sy_iconst X d_M_initial_75 ?_
              exact kr (0, M1) _ _ _ _ _ d_M_initial_76 hw (Or.inr (Or.inr ⟨by simp only [okI]; omega, by assumption, rfl, hp⟩)) rfl
            · refine sy_bipush X d_M_initial_61 (by decide) ?_
              exact kr (-4, M) _ _ _ _ _ d_M_initial_63 hw (Or.inr (Or.inl ⟨by simp only [okI]; omega, by assumption, rfl⟩)) rfl
          · refine sy_bipush X d_M_initial_47 (by decide) ?_
            exact kr (-3, M) _ _ _ _ _ d_M_initial_49 hw (Or.inl ⟨fun h => by simp only [okI] at h; omega, rfl⟩) rfl
def okS (f0 f1 f2 f3 : Int) : Prop := (-3 ≤ f0 ∧ f0 ≤ 3) ∧ (-3 ≤ f1 ∧ f1 ≤ 3) ∧ (-3 ≤ f2 ∧ f2 ≤ 3) ∧ (-3 ≤ f3 ∧ f3 ≤ 3)
set_option maxRecDepth 100000 in
set_option maxHeartbeats 4000000 in
theorem c_M_step (l : Launch) (D : va_G) (cs : Nat → ClassId) (ad : Nat → Nat) (M : Nat → Nat → Int) (N : Nat → Int) (f0 f1 f2 f3 : Int) (h0 : R31 f0) (h1 : R31 f1) (h2 : R31 f2) (h3 : R31 f3) : Ct (S := Int × (Nat → Nat → Int)) l D (tyL cs) y_M_step b_M_step 5 (some .boolean) (rm 2) [.ref (ad 0), .int (iI f0), .int (iI f1), .int (iI f2), .int (iI f3)] (wM ad cs M) (fun u => (¬ okS f0 f1 f2 f3 ∧ u = (0, M)) ∨ (okS f0 f1 f2 f3 ∧ u = (1, up2 (up2 (up2 (up2 M 6 0 f0) 6 1 f1) 6 2 f2) 6 3 f3))) (fun u => some (.int (iI u.1))) (fun u => wM ad cs u.2) := by
  refine Ct.introZ (by decide) (Nat.le_of_ble_eq_true rfl) ?_
  intro p e s m below meth c A args Q H locs X hnm hw kr ls hl
  have X : CX D (tyL cs) R_M b_M_step 5 p m c s args := X
  have hl : lv_has ls 5 [(0, .ref (ad 0)), (1, .int (iI f0)), (2, .int (iI f1)), (3, .int (iI f2)), (4, .int (iI f3))] := hl
  refine sy_iload_n X d_M_step_0 hl 1 rfl ?_
  refine sy_iconst X d_M_step_1 ?_
  refine call_Si (Xs := []) (As := [.int (iI f0), .int (iI 3)]) (rest := []) X lk_M_107 (c_M_bound l D cs (wM ad cs M) f0 3 h0 (by decide)) ⟨by decide, by decide⟩ hw rfl hl.1 (Nat.le_of_ble_eq_true rfl) d_M_step_2 rfl rfl ⟨Nat.zero_le _, Nat.zero_le _⟩ (fun _ H locs _ hw => ?_)
  refine sy_ifb_eq (tgt := 33) X d_M_step_5 (by decide) (fun c1 => ?_) (fun c1 => ?_)
  · refine sy_iconst X d_M_step_33 ?_
    exact kr (0, M) _ _ _ _ _ d_M_step_34 hw (Or.inl ⟨fun h => by simp only [okS] at h; omega, rfl⟩) rfl (by decide)
  · refine sy_iload_n X d_M_step_8 hl 2 rfl ?_
    refine sy_iconst X d_M_step_9 ?_
    refine call_Si (Xs := []) (As := [.int (iI f1), .int (iI 3)]) (rest := []) X lk_M_107 (c_M_bound l D cs (wM ad cs M) f1 3 h1 (by decide)) ⟨by decide, by decide⟩ hw rfl hl.1 (Nat.le_of_ble_eq_true rfl) d_M_step_10 rfl rfl ⟨Nat.zero_le _, Nat.zero_le _⟩ (fun _ H locs _ hw => ?_)
    refine sy_ifb_eq (tgt := 33) X d_M_step_13 (by decide) (fun c2 => ?_) (fun c2 => ?_)
    · refine sy_iconst X d_M_step_33 ?_
      exact kr (0, M) _ _ _ _ _ d_M_step_34 hw (Or.inl ⟨fun h => by simp only [okS] at h; omega, rfl⟩) rfl (by decide)
    · refine sy_iload_n X d_M_step_16 hl 3 rfl ?_
      refine sy_iconst X d_M_step_17 ?_
      refine call_Si (Xs := []) (As := [.int (iI f2), .int (iI 3)]) (rest := []) X lk_M_107 (c_M_bound l D cs (wM ad cs M) f2 3 h2 (by decide)) ⟨by decide, by decide⟩ hw rfl hl.1 (Nat.le_of_ble_eq_true rfl) d_M_step_18 rfl rfl ⟨Nat.zero_le _, Nat.zero_le _⟩ (fun _ H locs _ hw => ?_)
      refine sy_ifb_eq (tgt := 33) X d_M_step_21 (by decide) (fun c3 => ?_) (fun c3 => ?_)
      · refine sy_iconst X d_M_step_33 ?_
        exact kr (0, M) _ _ _ _ _ d_M_step_34 hw (Or.inl ⟨fun h => by simp only [okS] at h; omega, rfl⟩) rfl (by decide)
      · refine sy_iload X d_M_step_24 hl 4 rfl ?_
        refine sy_iconst X d_M_step_26 ?_
        refine call_Si (Xs := []) (As := [.int (iI f3), .int (iI 3)]) (rest := []) X lk_M_107 (c_M_bound l D cs (wM ad cs M) f3 3 h3 (by decide)) ⟨by decide, by decide⟩ hw rfl hl.1 (Nat.le_of_ble_eq_true rfl) d_M_step_27 rfl rfl ⟨Nat.zero_le _, Nat.zero_le _⟩ (fun _ H locs _ hw => ?_)
        refine sy_ifb_ne (tgt := 35) X d_M_step_30 (by decide) (fun c4 => ?_) (fun c4 => ?_)
        · refine sy_aload_n X d_M_step_35 hl 0 rfl ?_
          refine m_get X hw 8 (by decide) rfl (tt_of k517 rfl) d_M_step_36 ?_
          refine sy_iconst X d_M_step_39 ?_
          refine sy_iload_n X d_M_step_40 hl 1 rfl ?_
          refine m_ast X hw 6 0 (by decide) (by omega) (by simp only [szM]; omega) d_M_step_41 (fun H locs hw => ?_)
          refine sy_aload_n X d_M_step_42 hl 0 rfl ?_
          refine m_get X hw 8 (by decide) rfl (tt_of k517 rfl) d_M_step_43 ?_
          refine sy_iconst X d_M_step_46 ?_
          refine sy_iload_n X d_M_step_47 hl 2 rfl ?_
          refine m_ast X hw 6 1 (by decide) (by omega) (by simp only [szM]; omega) d_M_step_48 (fun H locs hw => ?_)
          refine sy_aload_n X d_M_step_49 hl 0 rfl ?_
          refine m_get X hw 8 (by decide) rfl (tt_of k517 rfl) d_M_step_50 ?_
          refine sy_iconst X d_M_step_53 ?_
          refine sy_iload_n X d_M_step_54 hl 3 rfl ?_
          refine m_ast X hw 6 2 (by decide) (by omega) (by simp only [szM]; omega) d_M_step_55 (fun H locs hw => ?_)
          refine sy_aload_n X d_M_step_56 hl 0 rfl ?_
          refine m_get X hw 8 (by decide) rfl (tt_of k517 rfl) d_M_step_57 ?_
          refine sy_iconst X d_M_step_60 ?_
          refine sy_iload X d_M_step_61 hl 4 rfl ?_
          refine m_ast X hw 6 3 (by decide) (by omega) (by simp only [szM]; omega) d_M_step_63 (fun H locs hw => ?_)
          refine sy_iconst X d_M_step_64 ?_
          exact kr (1, _) _ _ _ _ _ d_M_step_65 hw (Or.inr ⟨by simp only [okS]; omega, rfl⟩) rfl (by decide)
        · refine sy_iconst X d_M_step_33 ?_
          exact kr (0, M) _ _ _ _ _ d_M_step_34 hw (Or.inl ⟨fun h => by simp only [okS] at h; omega, rfl⟩) rfl (by decide)
set_option maxRecDepth 100000 in
set_option maxHeartbeats 4000000 in
theorem c_M_noise (l : Launch) (D : va_G) (cs : Nat → ClassId) (ad : Nat → Nat) (M : Nat → Nat → Int) (N : Nat → Int) (b0 b1 b2 : Int) (h0 : R31 b0) (h1 : R31 b1) (h2 : R31 b2) : Ct (S := Int × (Nat → Nat → Int)) l D (tyL cs) y_M_noise b_M_noise 4 (some .int) (rm 2) [.ref (ad 0), .int (iI b0), .int (iI b1), .int (iI b2)] (wM ad cs M) (fun u => (¬ okC b0 b1 b2 ∧ u = (-3, M)) ∨ (okC b0 b1 b2 ∧ ¬ Pd b0 b1 b2 ∧ u = (-4, M)) ∨ (okC b0 b1 b2 ∧ Pd b0 b1 b2 ∧ u = (0, up2 (up2 (up2 M 7 0 b0) 7 1 b1) 7 2 b2))) (fun u => some (.int (iI u.1))) (fun u => wM ad cs u.2) := by
  refine Ct.introI (by decide) (Nat.le_of_ble_eq_true rfl) ?_
  intro p e s m below meth c A args Q H locs X hnm hw kr ls hl
  have X : CX D (tyL cs) R_M b_M_noise 4 p m c s args := X
  have hl : lv_has ls 4 [(0, .ref (ad 0)), (1, .int (iI b0)), (2, .int (iI b1)), (3, .int (iI b2))] := hl
  refine sy_iload_n X d_M_noise_0 hl 1 rfl ?_
  refine sy_bipush X d_M_noise_1 (by decide) ?_
  refine call_Si (Xs := []) (As := [.int (iI b0), .int (iI 99)]) (rest := []) X lk_M_107 (c_M_bound l D cs (wM ad cs M) b0 99 h0 (by decide)) ⟨by decide, by decide⟩ hw rfl hl.1 (Nat.le_of_ble_eq_true rfl) d_M_noise_3 rfl rfl ⟨Nat.zero_le _, Nat.zero_le _⟩ (fun _ H locs _ hw => ?_)
  refine sy_ifb_eq (tgt := 27) X d_M_noise_6 (by decide) (fun c1 => ?_) (fun c1 => ?_)
  · refine sy_bipush X d_M_noise_27 (by decide) ?_
    exact kr (-3, M) _ _ _ _ _ d_M_noise_29 hw (Or.inl ⟨fun h => by simp only [okC] at h; omega, rfl⟩) rfl
  · refine sy_iload_n X d_M_noise_9 hl 2 rfl ?_
    refine sy_bipush X d_M_noise_10 (by decide) ?_
    refine call_Si (Xs := []) (As := [.int (iI b1), .int (iI 99)]) (rest := []) X lk_M_107 (c_M_bound l D cs (wM ad cs M) b1 99 h1 (by decide)) ⟨by decide, by decide⟩ hw rfl hl.1 (Nat.le_of_ble_eq_true rfl) d_M_noise_12 rfl rfl ⟨Nat.zero_le _, Nat.zero_le _⟩ (fun _ H locs _ hw => ?_)
    refine sy_ifb_eq (tgt := 27) X d_M_noise_15 (by decide) (fun c2 => ?_) (fun c2 => ?_)
    · refine sy_bipush X d_M_noise_27 (by decide) ?_
      exact kr (-3, M) _ _ _ _ _ d_M_noise_29 hw (Or.inl ⟨fun h => by simp only [okC] at h; omega, rfl⟩) rfl
    · refine sy_iload_n X d_M_noise_18 hl 3 rfl ?_
      refine sy_bipush X d_M_noise_19 (by decide) ?_
      refine call_Si (Xs := []) (As := [.int (iI b2), .int (iI 99)]) (rest := []) X lk_M_107 (c_M_bound l D cs (wM ad cs M) b2 99 h2 (by decide)) ⟨by decide, by decide⟩ hw rfl hl.1 (Nat.le_of_ble_eq_true rfl) d_M_noise_21 rfl rfl ⟨Nat.zero_le _, Nat.zero_le _⟩ (fun _ H locs _ hw => ?_)
      refine sy_ifb_ne (tgt := 30) X d_M_noise_24 (by decide) (fun c3 => ?_) (fun c3 => ?_)
      · refine sy_iload_n X d_M_noise_30 hl 1 rfl ?_
        refine sy_iload_n X d_M_noise_31 hl 2 rfl ?_
        refine sy_iload_n X d_M_noise_32 hl 3 rfl ?_
        refine call_Si (Xs := []) (As := [.int (iI b0), .int (iI b1), .int (iI b2)]) (rest := []) X lk_M_110 (c_M_positive l D cs (wM ad cs M) b0 b1 b2 (by omega) (by omega) (by omega)) ⟨by decide, by decide⟩ hw rfl hl.1 (Nat.le_of_ble_eq_true rfl) d_M_noise_33 rfl rfl ⟨Nat.zero_le _, Nat.zero_le _⟩ (fun _ H locs _ hw => ?_)
        refine sy_ifb_ne (tgt := 42) X d_M_noise_36 (by decide) (fun c4 => ?_) (fun c4 => ?_)
        · refine sy_aload_n X d_M_noise_42 hl 0 rfl ?_
          refine m_get X hw 9 (by decide) rfl (tt_of k518 rfl) d_M_noise_43 ?_
          refine sy_iconst X d_M_noise_46 ?_
          refine sy_iload_n X d_M_noise_47 hl 1 rfl ?_
          refine m_ast X hw 7 0 (by decide) (by omega) (by simp only [szM]; omega) d_M_noise_48 (fun H locs hw => ?_)
          refine sy_aload_n X d_M_noise_49 hl 0 rfl ?_
          refine m_get X hw 9 (by decide) rfl (tt_of k518 rfl) d_M_noise_50 ?_
          refine sy_iconst X d_M_noise_53 ?_
          refine sy_iload_n X d_M_noise_54 hl 2 rfl ?_
          refine m_ast X hw 7 1 (by decide) (by omega) (by simp only [szM]; omega) d_M_noise_55 (fun H locs hw => ?_)
          refine sy_aload_n X d_M_noise_56 hl 0 rfl ?_
          refine m_get X hw 9 (by decide) rfl (tt_of k518 rfl) d_M_noise_57 ?_
          refine sy_iconst X d_M_noise_60 ?_
          refine sy_iload_n X d_M_noise_61 hl 3 rfl ?_
          refine m_ast X hw 7 2 (by decide) (by omega) (by simp only [szM]; omega) d_M_noise_62 (fun H locs hw => ?_)
          refine sy_iconst X d_M_noise_63 ?_
          exact kr (0, _) _ _ _ _ _ d_M_noise_64 hw (Or.inr (Or.inr ⟨by simp only [okC]; omega, by assumption, rfl⟩)) rfl
        · refine sy_bipush X d_M_noise_39 (by decide) ?_
          exact kr (-4, M) _ _ _ _ _ d_M_noise_41 hw (Or.inr (Or.inl ⟨by simp only [okC]; omega, by assumption, rfl⟩)) rfl
      · refine sy_bipush X d_M_noise_27 (by decide) ?_
        exact kr (-3, M) _ _ _ _ _ d_M_noise_29 hw (Or.inl ⟨fun h => by simp only [okC] at h; omega, rfl⟩) rfl
set_option maxRecDepth 100000 in
set_option maxHeartbeats 4000000 in
theorem c_M_time (l : Launch) (D : va_G) (cs : Nat → ClassId) (ad : Nat → Nat) (M : Nat → Nat → Int) (N : Nat → Int)  : Ct (S := Unit) l D (tyL cs) y_M_time b_M_time 1 (some .int) (rm 1) [.ref (ad 0)] (wM ad cs M) (fun _ => True) (fun _ => some (.int (iI (M 0 0)))) (fun _ => wM ad cs M) := by
  refine Ct.introI (by decide) (Nat.le_of_ble_eq_true rfl) ?_
  intro p e s m below meth c A args Q H locs X hnm hw kr ls hl
  have X : CX D (tyL cs) R_M b_M_time 1 p m c s args := X
  have hl : lv_has ls 1 [(0, .ref (ad 0))] := hl
  refine sy_aload_n X d_M_time_0 hl 0 rfl ?_
  refine m_get X hw 5 (by decide) rfl (tt_of k514 rfl) d_M_time_1 ?_
  exact kr () _ _ _ _ _ d_M_time_4 hw trivial rfl
set_option maxRecDepth 100000 in
set_option maxHeartbeats 4000000 in
theorem c_M_observations (l : Launch) (D : va_G) (cs : Nat → ClassId) (ad : Nat → Nat) (M : Nat → Nat → Int) (N : Nat → Int)  : Ct (S := Unit) l D (tyL cs) y_M_observations b_M_observations 1 (some .int) (rm 1) [.ref (ad 0)] (wM ad cs M) (fun _ => True) (fun _ => some (.int (iI (M 0 1)))) (fun _ => wM ad cs M) := by
  refine Ct.introI (by decide) (Nat.le_of_ble_eq_true rfl) ?_
  intro p e s m below meth c A args Q H locs X hnm hw kr ls hl
  have X : CX D (tyL cs) R_M b_M_observations 1 p m c s args := X
  have hl : lv_has ls 1 [(0, .ref (ad 0))] := hl
  refine sy_aload_n X d_M_observations_0 hl 0 rfl ?_
  refine m_get X hw 6 (by decide) rfl (tt_of k515 rfl) d_M_observations_1 ?_
  exact kr () _ _ _ _ _ d_M_observations_4 hw trivial rfl
