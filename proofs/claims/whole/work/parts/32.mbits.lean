theorem iI_div {a b : Int} (ha : 0 ≤ a) (ha2 : a < 2147483648) (hb : 0 < b ∧ b < 2147483648) : iI a / iI b = iI (a / b) := by
  show Int32.ofInt a / Int32.ofInt b = Int32.ofInt (a / b)
  rw [← Int.tdiv_eq_ediv_of_nonneg ha, Int32.ofInt_tdiv] <;> first | (rw [Int32.toInt_minValue]; omega) | (rw [Int32.toInt_maxValue]; omega)
theorem iI_n0 {b : Int} (hb : 0 < b ∧ b < 2147483648) : ¬ iI b = 0 := fun h => by
  have h2 : iI b = iI 0 := h
  rw [iI_eq ⟨by omega, hb.2⟩ ⟨by decide, by decide⟩] at h2
  omega
theorem sy_idivN {p : Program} {l : Launch} {e : Env} {R : Room} {s : State} {m : MethodId} {args : Array Value} {below : List Frame} {meth : Method} {c0 : Code} {H : Heap} {locs : List Loc} {cells slots : Nat} {Q : State → Prop} {D : va_G} {tys : List (ClassId × FieldType)} {own : String} {cc : ByteArray} {nL : Nat} {pc : Nat} {ls : Array Slot} {rest : List Value} {a b : Int} (X : CX D tys own cc nL p m c0 s args) (hd : decode cc pc = .ok (.idiv, 1)) (ha : 0 ≤ a) (ha2 : a < 2147483648) (hb : 0 < b ∧ b < 2147483648) (k : W p l e R s m args below meth c0 H locs cells slots Q (F0 m (pc + 1) ls (.int (iI (a / b)) :: rest))) : W p l e R s m args below meth c0 H locs cells slots Q (F0 m pc ls (.int (iI b) :: .int (iI a) :: rest)) :=
  lv_idiv X.1.1 X.1.2.1 hd (iI_n0 hb) (by rw [iI_div ha ha2 hb]; exact k)
theorem sy_iremN {p : Program} {l : Launch} {e : Env} {R : Room} {s : State} {m : MethodId} {args : Array Value} {below : List Frame} {meth : Method} {c0 : Code} {H : Heap} {locs : List Loc} {cells slots : Nat} {Q : State → Prop} {D : va_G} {tys : List (ClassId × FieldType)} {own : String} {cc : ByteArray} {nL : Nat} {pc : Nat} {ls : Array Slot} {rest : List Value} {a b : Int} (X : CX D tys own cc nL p m c0 s args) (hd : decode cc pc = .ok (.irem, 1)) (ha : 0 ≤ a) (ha2 : a < 2147483648) (hb : 0 < b ∧ b < 2147483648) (k : W p l e R s m args below meth c0 H locs cells slots Q (F0 m (pc + 1) ls (.int (iI (a % b)) :: rest))) : W p l e R s m args below meth c0 H locs cells slots Q (F0 m pc ls (.int (iI b) :: .int (iI a) :: rest)) :=
  lv_irem X.1.1 X.1.2.1 hd (iI_n0 hb) (by
    have e : iI a - iI a / iI b * iI b = iI (a % b) := by rw [iI_div ha ha2 hb, iI_mul, iI_sub, Int.emod_def, Int.mul_comm]
    rw [e]; exact k)
/-- how many bits a number has -/
def BL (x : Int) (r : Nat) : Prop := (x.natAbs : Int) < 2 ^ r ∧ (r = 0 ∨ (2 : Int) ^ (r - 1) ≤ (x.natAbs : Int))
/-- numerator and denominator in lowest terms -/
def lwN (a b : Int) : Int := a / ((Nat.gcd b.natAbs a.natAbs : Nat) : Int)
def lwD (a b : Int) : Int := b / ((Nat.gcd b.natAbs a.natAbs : Nat) : Int)
theorem bl_step {V : Int} {j k : Nat} {d : Int} (h0 : 0 ≤ V) (hk : k < 16) (hd : V / 65536 ^ j % 65536 = d) (hlt : V < 2 ^ (16 * j + k + 1)) : (d / 2 ^ k % 2 = 0 → V < 2 ^ (16 * j + k)) ∧ (d / 2 ^ k % 2 ≠ 0 → 2 ^ (16 * j + k) ≤ V) := by
  have e1 : (65536 : Int) ^ j = 2 ^ (16 * j) := by rw [Int.pow_mul]; rfl
  have e2 : d / 2 ^ k % 2 = V / 2 ^ (16 * j + k) % 2 := by
    rw [← hd, e1, Int.pow_add, ← Int.ediv_ediv_of_nonneg (Int.le_of_lt (p2pos _))]
    generalize V / 2 ^ (16 * j) = q
    have e3 : (65536 : Int) = 2 ^ k * (2 * 2 ^ (15 - k)) := by
      rw [← Int.mul_assoc, Int.mul_comm (2 ^ k) 2, Int.mul_assoc, ← Int.pow_add, show k + (15 - k) = 15 by omega]; rfl
    have e4 : q % 65536 / 2 ^ k = q / 2 ^ k % (2 * 2 ^ (15 - k)) := by
      rw [e3, Int.emod_def q, Int.emod_def (q / 2 ^ k), ← Int.ediv_ediv_of_nonneg (Int.le_of_lt (p2pos k)), Int.sub_eq_add_neg, Int.mul_assoc, ← Int.mul_neg, Int.add_mul_ediv_left _ _ (by have := p2pos k; omega)]
      omega
    rw [e4, Int.emod_emod_of_dvd _ ⟨_, rfl⟩]
  rw [e2]
  have hp := p2pos (16 * j + k)
  have hlt2 : V / 2 ^ (16 * j + k) < 2 := Int.ediv_lt_of_lt_mul hp (by rw [Int.pow_succ] at hlt; omega)
  have hge : 0 ≤ V / 2 ^ (16 * j + k) := Int.ediv_nonneg h0 (Int.le_of_lt hp)
  constructor
  · intro h
    have hz : V / 2 ^ (16 * j + k) = 0 := by omega
    have := Int.lt_mul_ediv_self_add (x := V) hp
    rw [hz] at this; omega
  · intro h
    have h1 : 1 ≤ V / 2 ^ (16 * j + k) := by omega
    have := Int.mul_le_of_le_ediv hp h1
    omega
theorem wd_word {f : Nat → Int} {V : Int} {k : Nat} (hd : ∀ v, Dg f v) (hv : ∀ v, 110 ≤ v → vl f v = V) : f (2 * k) + 65536 * f (2 * k + 1) = V / 2 ^ (32 * k) % 4294967296 := by
  have e1 : ∀ n, (65536 : Int) ^ n = 2 ^ (16 * n) := fun n => by rw [Int.pow_mul]; rfl
  have h1 := vl_dig (f := f) (u := 2 * k + 112) (k := 2 * k) (hd _) (by omega)
  have h2 := vl_dig (f := f) (u := 2 * k + 112) (k := 2 * k + 1) (hd _) (by omega)
  rw [hv _ (by omega)] at h1 h2
  rw [← h1, ← h2, B_succ, ← Int.ediv_ediv_of_nonneg (Int.le_of_lt (B_pos _)), e1, show 16 * (2 * k) = 32 * k by omega]
  omega
set_option maxRecDepth 100000 in
set_option maxHeartbeats 4000000 in
theorem c_M_lowest (l : Launch) (D : va_G) (cs : Nat → ClassId) (ad : Nat → Nat) (M : Nat → Nat → Int) (N : Nat → Int) (t q : Nat) (hR : Rep M N) (hI : MInv M N t q) (kd tt e0 : Int) (k0 : R31 kd) (k1 : R31 tt) (k2 : R31 e0) (lw : Int) (k3 : R31 lw) (hok : okQ t q kd tt e0) : Ct (S := Nat → Nat → Int) l D (tyL cs) y_M_lowest b_M_lowest 5 (some .int) (rm 11) [.ref (ad 0), .int (iI kd), .int (iI tt), .int (iI e0), .int (iI lw)] (wM ad cs M) (fun M1 => ∃ N1, QS M N t M1 N1 ∧ (kd = 2 → SmCh N (M 8) t (sml N1) 0) ∧ N1 96 = lwN (N1 (ixU kd tt e0)) (N1 (ixL kd tt e0)) ∧ N1 97 = lwD (N1 (ixU kd tt e0)) (N1 (ixL kd tt e0))) (fun _ => some (.int (iI ((if lw = 0 then 96 else 97 : Nat) : Int)))) (fun M1 => wM ad cs M1) := by
  refine Ct.introI (by decide) (Nat.le_of_ble_eq_true rfl) ?_
  intro p e s m below meth c A args Q H locs X hnm hw kr ls hl
  have X : CX D (tyL cs) R_M b_M_lowest 5 p m c s args := X
  have hl : lv_has ls 5 [(0, .ref (ad 0)), (1, .int (iI kd)), (2, .int (iI tt)), (3, .int (iI e0)), (4, .int (iI lw))] := hl
  have k01 := k0.1
  have k02 := k0.2
  have k11 := k1.1
  have k12 := k1.2
  have k21 := k2.1
  have k22 := k2.2
  obtain ⟨⟨ht, ht3, hq, hq6⟩, -⟩ := id hI
  refine sy_aload_n X d_M_lowest_0 hl 0 rfl ?_
  refine sy_bipush X d_M_lowest_1 (by decide) ?_
  refine sy_aload_n X d_M_lowest_3 hl 0 rfl ?_
  refine sy_iload_n X d_M_lowest_4 hl 1 rfl ?_
  refine sy_iload_n X d_M_lowest_5 hl 2 rfl ?_
  refine sy_iload_n X d_M_lowest_6 hl 3 rfl ?_
  have hok : okQ t q kd tt e0 := by omega
  have hix := ix_lt ht3 hq6 hok
  refine call_Vi (Xs := []) (b := ad 0) (As := [.int (iI kd), .int (iI tt), .int (iI e0)]) (rest := [.int (iI 96), .ref (ad 0)]) X lk_M_147 (c_M_upper l D cs ad M N t q hR hI kd tt e0 k0 k1 k2 hok) ⟨by decide, by decide⟩ rcv_M hw rfl hl.1 (Nat.le_of_ble_eq_true rfl) d_M_lowest_7 rfl rfl ⟨Nat.zero_le _, Nat.zero_le _⟩ (fun M1 H locs pu hw => ?_)
  obtain ⟨N1, hQ, hC⟩ := pu
  have hqb := q_bounds hI hQ hok hC
  refine call_Vv (Xs := []) (b := ad 0) (As := [.int (iI 96), .int (iI ((ixU kd tt e0 : Nat) : Int))]) (rest := []) X lk_M_78 (c_M_copy l D cs ad M1 N1 96 (ixU kd tt e0) (by decide) (by omega) hQ.1) ⟨by decide, by decide⟩ rcv_M hw rfl hl.1 (Nat.le_of_ble_eq_true rfl) d_M_lowest_10 rfl rfl ⟨Nat.zero_le _, Nat.zero_le _⟩ (fun M2 H locs p2 hw => ?_)
  obtain ⟨N2, eN2⟩ : ∃ g, g = up1 N1 96 (N1 (ixU kd tt e0)) := ⟨_, rfl⟩
  rw [← eN2] at p2
  refine sy_aload_n X d_M_lowest_13 hl 0 rfl ?_
  refine sy_bipush X d_M_lowest_14 (by decide) ?_
  refine sy_aload_n X d_M_lowest_16 hl 0 rfl ?_
  refine sy_iload_n X d_M_lowest_17 hl 1 rfl ?_
  refine sy_iload_n X d_M_lowest_18 hl 2 rfl ?_
  refine sy_iload_n X d_M_lowest_19 hl 3 rfl ?_
  refine call_Vi (Xs := []) (b := ad 0) (As := [.int (iI kd), .int (iI tt), .int (iI e0)]) (rest := [.int (iI 97), .ref (ad 0)]) X lk_M_151 (c_M_lowerOf l D cs ad M2 N t q ht3 hq6 kd tt e0 k0 k1 k2 hok) ⟨by decide, by decide⟩ rcv_M hw rfl hl.1 (Nat.le_of_ble_eq_true rfl) d_M_lowest_20 rfl rfl ⟨Nat.zero_le _, Nat.zero_le _⟩ (fun _ H locs _ hw => ?_)
  refine call_Vv (Xs := []) (b := ad 0) (As := [.int (iI 97), .int (iI ((ixL kd tt e0 : Nat) : Int))]) (rest := []) X lk_M_78 (c_M_copy l D cs ad M2 N2 97 (ixL kd tt e0) (by decide) (by omega) p2.1) ⟨by decide, by decide⟩ rcv_M hw rfl hl.1 (Nat.le_of_ble_eq_true rfl) d_M_lowest_23 rfl rfl ⟨Nat.zero_le _, Nat.zero_le _⟩ (fun M3 H locs p3 hw => ?_)
  obtain ⟨N3, eN3⟩ : ∃ g, g = up1 N2 97 (N2 (ixL kd tt e0)) := ⟨_, rfl⟩
  rw [← eN3] at p3
  have v96 : N3 96 = N1 (ixU kd tt e0) := by rw [eN3, up1_n _ (by decide), eN2, up1_s]
  have v97 : N3 97 = N1 (ixL kd tt e0) := by rw [eN3, up1_s, eN2, up1_n _ (by omega)]
  have hf3 : ∀ j, j < 96 → N3 j = N1 j := fun j hj => by rw [eN3, up1_n _ (by omega), eN2, up1_n _ (by omega)]
  refine sy_aload_n X d_M_lowest_26 hl 0 rfl ?_
  refine sy_bipush X d_M_lowest_27 (by decide) ?_
  refine sy_iconst X d_M_lowest_29 ?_
  refine call_Vv (Xs := []) (b := ad 0) (As := [.int (iI 96), .int (iI 2)]) (rest := []) X lk_M_123 (c_M_shrink l D cs ad M3 N3 96 2 (by decide) (by decide) p3.1 (by rw [show 96 + 2 - 1 = 97 from rfl, v97]; exact hqb.1)) ⟨by decide, by decide⟩ rcv_M hw rfl hl.1 (Nat.le_of_ble_eq_true rfl) d_M_lowest_30 rfl rfl ⟨Nat.zero_le _, Nat.zero_le _⟩ (fun M4 H locs p4 hw => ?_)
  obtain ⟨N4, c1, c2, c3⟩ := p4
  have hg : gF (N3 (96 + 2 - 1)) (fun i => N3 (96 + i)) (2 - 1) = Nat.gcd (N1 (ixL kd tt e0)).natAbs (N1 (ixU kd tt e0)).natAbs := by
    show Nat.gcd (N3 97).natAbs (N3 (96 + 0)).natAbs = _; rw [show 96 + 0 = 96 from rfl, v96, v97]
  rw [hg] at c3
  have hf4 : ∀ j, j < 96 → N4 j = N1 j := fun j hj => by rw [c3 j (by omega), if_neg (by omega)]; exact hf3 j hj
  have hQ4 := hQ.work ht3 c1 ((p2.2.1.tr p3.2.1).tr c2) hf4
  have g96 : N4 96 = lwN (N4 (ixU kd tt e0)) (N4 (ixL kd tt e0)) := by rw [hf4 _ hix.1, hf4 _ hix.2, c3 96 (by decide), if_pos (by decide), v96]; rfl
  have g97 : N4 97 = lwD (N4 (ixU kd tt e0)) (N4 (ixL kd tt e0)) := by rw [hf4 _ hix.1, hf4 _ hix.2, c3 97 (by decide), if_pos (by decide), v97]; rfl
  refine sy_iload X d_M_lowest_33 hl 4 rfl ?_
  refine sy_if_eq (tgt := 43) X d_M_lowest_35 (by decide) k3 (fun c1 => ?_) (fun c1 => ?_)
  · refine sy_bipush X d_M_lowest_43 (by decide) ?_
    exact kr M4 _ _ _ _ _ d_M_lowest_45 hw ⟨N4, hQ4, fun h => sm_work ht3 (hC h) hf4, g96, g97⟩ (by first | (rw [if_pos (by assumption)]; rfl) | (rw [if_neg (by assumption)]; rfl))
  · refine sy_bipush X d_M_lowest_38 (by decide) ?_
    refine sy_goto (tgt := 45) X d_M_lowest_40 (by decide) ?_
    exact kr M4 _ _ _ _ _ d_M_lowest_45 hw ⟨N4, hQ4, fun h => sm_work ht3 (hC h) hf4, g96, g97⟩ (by first | (rw [if_pos (by assumption)]; rfl) | (rw [if_neg (by assumption)]; rfl))
set_option maxRecDepth 100000 in
set_option maxHeartbeats 4000000 in
theorem c_M_bits (l : Launch) (D : va_G) (cs : Nat → ClassId) (ad : Nat → Nat) (M : Nat → Nat → Int) (N : Nat → Int) (t q : Nat) (hR : Rep M N) (hI : MInv M N t q) (kd tt e0 : Int) (k0 : R31 kd) (k1 : R31 tt) (k2 : R31 e0) (lw : Int) (k3 : R31 lw) : Ct (S := Int × (Nat → Nat → Int)) l D (tyL cs) y_M_bits b_M_bits 7 (some .int) (rm 12) [.ref (ad 0), .int (iI kd), .int (iI tt), .int (iI e0), .int (iI lw)] (wM ad cs M) (fun u => (¬ okQ t q kd tt e0 ∧ u = (-2, M)) ∨ (okQ t q kd tt e0 ∧ ∃ N1 r, QS M N t u.2 N1 ∧ (kd = 2 → SmCh N (M 8) t (sml N1) 0) ∧ BL (if lw = 0 then lwN (N1 (ixU kd tt e0)) (N1 (ixL kd tt e0)) else lwD (N1 (ixU kd tt e0)) (N1 (ixL kd tt e0))) r ∧ u.1 = (r : Int))) (fun u => some (.int (iI u.1))) (fun u => wM ad cs u.2) := by
  refine Ct.introI (by decide) (Nat.le_of_ble_eq_true rfl) ?_
  intro p e s m below meth c A args Q H locs X hnm hw kr ls hl
  have X : CX D (tyL cs) R_M b_M_bits 7 p m c s args := X
  have hl : lv_has ls 7 [(0, .ref (ad 0)), (1, .int (iI kd)), (2, .int (iI tt)), (3, .int (iI e0)), (4, .int (iI lw))] := hl
  have k01 := k0.1
  have k02 := k0.2
  have k11 := k1.1
  have k12 := k1.2
  have k21 := k2.1
  have k22 := k2.2
  obtain ⟨⟨ht, ht3, hq, hq6⟩, -⟩ := id hI
  refine sy_aload_n X d_M_bits_0 hl 0 rfl ?_
  refine sy_iload_n X d_M_bits_1 hl 1 rfl ?_
  refine sy_iload_n X d_M_bits_2 hl 2 rfl ?_
  refine sy_iload_n X d_M_bits_3 hl 3 rfl ?_
  refine call_Vi (Xs := []) (b := ad 0) (As := [.int (iI kd), .int (iI tt), .int (iI e0)]) (rest := []) X lk_M_144 (c_M_none l D cs ad M N t q hR hI kd tt e0 k0 k1 k2) ⟨by decide, by decide⟩ rcv_M hw rfl hl.1 (Nat.le_of_ble_eq_true rfl) d_M_bits_4 rfl rfl ⟨Nat.zero_le _, Nat.zero_le _⟩ (fun _ H locs _ hw => ?_)
  refine sy_ifb_eq (tgt := 13) X d_M_bits_7 (by decide) (fun c1 => ?_) (fun c1 => ?_)
  · refine sy_aload_n X d_M_bits_13 hl 0 rfl ?_
    refine sy_iload_n X d_M_bits_14 hl 1 rfl ?_
    refine sy_iload_n X d_M_bits_15 hl 2 rfl ?_
    refine sy_iload_n X d_M_bits_16 hl 3 rfl ?_
    refine sy_iload X d_M_bits_17 hl 4 rfl ?_
    have hok : okQ t q kd tt e0 := by omega
    refine call_Vi (Xs := []) (b := ad 0) (As := [.int (iI kd), .int (iI tt), .int (iI e0), .int (iI lw)]) (rest := []) X lk_M_154 (c_M_lowest l D cs ad M N t q hR hI kd tt e0 k0 k1 k2 lw k3 hok) ⟨by decide, by decide⟩ rcv_M hw rfl hl.1 (Nat.le_of_ble_eq_true rfl) d_M_bits_19 rfl rfl ⟨Nat.zero_le _, Nat.zero_le _⟩ (fun M1 H locs pl hw => ?_)
    obtain ⟨N1, hQ, hC, h96, h97⟩ := pl
    obtain ⟨x, hx⟩ : ∃ x : Nat, x = if lw = 0 then 96 else 97 := ⟨_, rfl⟩
    rw [← hx]
    have hx2 : x < 120 := by rw [hx]; split <;> decide
    have hvx : N1 x = if lw = 0 then lwN (N1 (ixU kd tt e0)) (N1 (ixL kd tt e0)) else lwD (N1 (ixU kd tt e0)) (N1 (ixL kd tt e0)) := by rw [hx]; split <;> assumption
    obtain ⟨u, hu, hu1, hdx, hvl, hlt, htop, -⟩ := (hQ.1 x hx2).dig
    have hWf := hQ.1.wf
    refine sy_istore (lv1 := [(5, .int (iI ((x : Nat) : Int))), (0, .ref (ad 0)), (1, .int (iI kd)), (2, .int (iI tt)), (3, .int (iI e0)), (4, .int (iI lw))]) X d_M_bits_22 hl (by decide) rfl (fun ls hl => ?_)
    refine sy_bipush X d_M_bits_24 (by decide) ?_
    refine sy_aload_n X d_M_bits_26 hl 1 rfl ?_
    refine m_get X hw 1 (by decide) rfl (tt_of k510 rfl) d_M_bits_27 ?_
    refine sy_iload X d_M_bits_30 hl 0 rfl ?_
    refine m_ald X hw 2 x (by decide) (by omega) (by simp only [szM]; omega) (u : Int) hu d_M_bits_32 ?_
    refine sy_imul X d_M_bits_33 ?_
    refine sy_istore (lv1 := [(6, .int (iI (16 * (u : Int)))), (5, .int (iI ((x : Nat) : Int))), (0, .ref (ad 0)), (1, .int (iI kd)), (2, .int (iI tt)), (3, .int (iI e0)), (4, .int (iI lw))]) X d_M_bits_34 hl (by decide) rfl (fun ls hl => ?_)
    have key : ∀ (n : Nat) (r : Nat) (H : Heap) (locs : List Loc) (ls : Array Slot), r ≤ 16 * u → r < n → ((N1 x).natAbs : Int) < 2 ^ r → HW D A s.heap (wM ad cs M1) H locs → lv_has ls 7 [(0, .ref (ad 0)), (1, .int (iI kd)), (2, .int (iI tt)), (3, .int (iI e0)), (4, .int (iI lw)), (5, .int (iI ((x : Nat) : Int))), (6, .int (iI ((r : Nat) : Int)))] → W p l e (rm 12) s m args below meth c H locs 0 0 Q (F0 m 36 ls []) := by
      intro n
      induction n with
      | zero =>
        intro r H locs ls f1 f2 f3 hw hl
        exfalso; omega
      | succ n ih_key =>
        intro r H locs ls f1 f2 f3 hw hl
        refine sy_iload X d_M_bits_36 hl 6 rfl ?_
        refine sy_if_le (tgt := 78) X d_M_bits_38 (by decide) ⟨by omega, by omega⟩ (fun cz => ?_) (fun cz => ?_)
        · refine sy_iload X d_M_bits_78 hl 6 rfl ?_
          exact kr ((r : Int), M1) _ _ _ _ _ d_M_bits_80 hw (Or.inr ⟨hok, N1, r, hQ, hC, ⟨by rw [← hvx]; exact f3, by rw [← hvx]; first | (exact Or.inl (by omega)) | (exact Or.inr (by rw [hjb]; exact hst.2 cb))⟩, rfl⟩) rfl
        · obtain ⟨j, hj⟩ : ∃ j, j = (r - 1) / 16 := ⟨_, rfl⟩
          obtain ⟨b, hb⟩ : ∃ b, b = (r - 1) % 16 := ⟨_, rfl⟩
          have hjb : r - 1 = 16 * j + b := by omega
          have hjb1 : r = 16 * j + b + 1 := by omega
          have hju : j < u := by omega
          have hdj := hdx u j hju
          have hdd : dgt M1 x j = M1 1 (110 * x + j) := by rw [dgt_eq hu, if_pos hju]
          rw [hdd] at hdj
          have hdv : ((N1 x).natAbs : Int) / 65536 ^ j % 65536 = M1 1 (110 * x + j) := by rw [← hvl u (Nat.le_refl u), vl_dig (hdx u) hju, hdd]
          have hst := bl_step (k := b) (by omega) (by omega) hdv (by rw [← hjb1]; exact f3)
          refine sy_aload_n X d_M_bits_41 hl 0 rfl ?_
          refine m_get X hw 0 (by decide) rfl (tt_of k509 rfl) d_M_bits_42 ?_
          refine sy_bipush X d_M_bits_45 (by decide) ?_
          refine sy_iload X d_M_bits_47 hl 5 rfl ?_
          refine sy_imul X d_M_bits_49 ?_
          refine sy_iload X d_M_bits_50 hl 6 rfl ?_
          refine sy_iconst X d_M_bits_52 ?_
          refine sy_isub X d_M_bits_53 ?_
          refine sy_bipush X d_M_bits_54 (by decide) ?_
          refine sy_idivN X d_M_bits_56 (by omega) (by omega) (by decide) ?_
          refine sy_iadd X d_M_bits_57 ?_
          refine m_ald X hw 1 (110 * x + j) (by decide) (by omega) (by simp only [szM]; omega) (M1 1 (110 * x + j)) rfl d_M_bits_58 ?_
          refine sy_iload X d_M_bits_59 hl 6 rfl ?_
          refine sy_iconst X d_M_bits_61 ?_
          refine sy_isub X d_M_bits_62 ?_
          refine sy_bipush X d_M_bits_63 (by decide) ?_
          refine sy_iremN X d_M_bits_65 (by omega) (by omega) (by decide) ?_
          rw [show (((r : Nat) : Int) - 1) % 16 = (b : Int) by omega]
          refine sy_ishr X ((2 : Int) ^ (b : Int).toNat) d_M_bits_66 ⟨by omega, by omega⟩ (by omega) (by omega) rfl ?_
          refine sy_iconst X d_M_bits_67 ?_
          refine sy_iand X 1 2 d_M_bits_68 (by decide) (by decide) (by decide) ?_
          have ebt : (b : Int).toNat = b := Int.toNat_natCast b
          rw [ebt]
          have hbit : 0 ≤ M1 1 (110 * x + j) / 2 ^ b % 2 ∧ M1 1 (110 * x + j) / 2 ^ b % 2 < 2 := ⟨Int.emod_nonneg _ (by decide), Int.emod_lt_of_pos _ (by decide)⟩
          refine sy_if_ne (tgt := 78) X d_M_bits_69 (by decide) ⟨by omega, by omega⟩ (fun cb => ?_) (fun cb => ?_)
          · refine sy_iload X d_M_bits_78 hl 6 rfl ?_
            exact kr ((r : Int), M1) _ _ _ _ _ d_M_bits_80 hw (Or.inr ⟨hok, N1, r, hQ, hC, ⟨by rw [← hvx]; exact f3, by rw [← hvx]; first | (exact Or.inl (by omega)) | (exact Or.inr (by rw [hjb]; exact hst.2 cb))⟩, rfl⟩) rfl
          · have hz : ((N1 x).natAbs : Int) < 2 ^ (r - 1) := by rw [hjb]; exact hst.1 (by assumption)
            refine sy_iinc (lv1 := [(6, .int (iI (((r : Nat) : Int) + (-1)))), (0, .ref (ad 0)), (1, .int (iI kd)), (2, .int (iI tt)), (3, .int (iI e0)), (4, .int (iI lw)), (5, .int (iI ((x : Nat) : Int)))]) X d_M_bits_72 hl 6 rfl (by omega) (by decide) rfl (fun ls hl => ?_)
            refine sy_goto (tgt := 36) X d_M_bits_75 (by decide) ?_
            rw [show ((r : Nat) : Int) + (-1) = ((r - 1 : Nat) : Int) by omega] at hl
            exact ih_key (r - 1) H locs ls (by omega) (by omega) hz hw (lv_sub hl [1, 2, 3, 4, 5, 6, 0] rfl)
    exact key (16 * u + 1) (16 * u) H locs ls (by omega) (by omega) (by rw [show (2 : Int) ^ (16 * u) = 65536 ^ u by rw [Int.pow_mul]; rfl]; exact hlt) hw (lv_sub hl [2, 3, 4, 5, 6, 1, 0] rfl)
  · refine sy_bipush X d_M_bits_10 (by decide) ?_
    exact kr (-2, M) _ _ _ _ _ d_M_bits_12 hw (Or.inl ⟨by assumption, rfl⟩) rfl
set_option maxRecDepth 100000 in
set_option maxHeartbeats 4000000 in
theorem c_M_word (l : Launch) (D : va_G) (cs : Nat → ClassId) (ad : Nat → Nat) (M : Nat → Nat → Int) (N : Nat → Int) (t q : Nat) (hR : Rep M N) (hI : MInv M N t q) (kd tt e0 : Int) (k0 : R31 kd) (k1 : R31 tt) (k2 : R31 e0) (lw : Int) (k3 : R31 lw) (kk : Int) (k4 : R31 kk) : Ct (S := Int × (Nat → Nat → Int)) l D (tyL cs) y_M_word b_M_word 7 (some .long) (rm 12) [.ref (ad 0), .int (iI kd), .int (iI tt), .int (iI e0), .int (iI lw), .int (iI kk)] (wM ad cs M) (fun u => (¬ okQ t q kd tt e0 ∧ u = (-2, M)) ∨ (okQ t q kd tt e0 ∧ ¬ (0 ≤ kk ∧ kk ≤ 31) ∧ u = (-3, M)) ∨ (okQ t q kd tt e0 ∧ (0 ≤ kk ∧ kk ≤ 31) ∧ ∃ N1, QS M N t u.2 N1 ∧ (kd = 2 → SmCh N (M 8) t (sml N1) 0) ∧ u.1 = ((if lw = 0 then lwN (N1 (ixU kd tt e0)) (N1 (ixL kd tt e0)) else lwD (N1 (ixU kd tt e0)) (N1 (ixL kd tt e0))).natAbs : Int) / 2 ^ (32 * kk.toNat) % 4294967296)) (fun u => some (.long (jI u.1))) (fun u => wM ad cs u.2) := by
  refine Ct.introJ (by decide) (Nat.le_of_ble_eq_true rfl) ?_
  intro p e s m below meth c A args Q H locs X hnm hw kr ls hl
  have X : CX D (tyL cs) R_M b_M_word 7 p m c s args := X
  have hl : lv_has ls 7 [(0, .ref (ad 0)), (1, .int (iI kd)), (2, .int (iI tt)), (3, .int (iI e0)), (4, .int (iI lw)), (5, .int (iI kk))] := hl
  have k01 := k0.1
  have k02 := k0.2
  have k11 := k1.1
  have k12 := k1.2
  have k21 := k2.1
  have k22 := k2.2
  obtain ⟨⟨ht, ht3, hq, hq6⟩, -⟩ := id hI
  have k41 := k4.1
  have k42 := k4.2
  refine sy_aload_n X d_M_word_0 hl 0 rfl ?_
  refine sy_iload_n X d_M_word_1 hl 1 rfl ?_
  refine sy_iload_n X d_M_word_2 hl 2 rfl ?_
  refine sy_iload_n X d_M_word_3 hl 3 rfl ?_
  refine call_Vi (Xs := []) (b := ad 0) (As := [.int (iI kd), .int (iI tt), .int (iI e0)]) (rest := []) X lk_M_144 (c_M_none l D cs ad M N t q hR hI kd tt e0 k0 k1 k2) ⟨by decide, by decide⟩ rcv_M hw rfl hl.1 (Nat.le_of_ble_eq_true rfl) d_M_word_4 rfl rfl ⟨Nat.zero_le _, Nat.zero_le _⟩ (fun _ H locs _ hw => ?_)
  refine sy_ifb_eq (tgt := 14) X d_M_word_7 (by decide) (fun c1 => ?_) (fun c1 => ?_)
  · refine sy_iload X d_M_word_14 hl 5 rfl ?_
    refine sy_if_lt (tgt := 26) X d_M_word_16 (by decide) ⟨by omega, by omega⟩ (fun c2 => ?_) (fun c2 => ?_)
    · refine sy_ldc2 (z := -3) X (tt_of k693 rfl) d_M_word_26 (by decide) ?_
      exact kr (-3, M) _ _ _ _ _ d_M_word_29 hw (Or.inr (Or.inl ⟨by omega, by omega, rfl⟩)) rfl
    · refine sy_iload X d_M_word_19 hl 5 rfl ?_
      refine sy_bipush X d_M_word_21 (by decide) ?_
      refine sy_icmp_le (tgt := 30) X d_M_word_23 (by decide) ⟨by omega, by omega⟩ ⟨by omega, by omega⟩ (fun c3 => ?_) (fun c3 => ?_)
      · obtain ⟨kn, rfl⟩ : ∃ kn : Nat, kk = (kn : Int) := ⟨kk.toNat, by omega⟩
        refine sy_aload_n X d_M_word_30 hl 0 rfl ?_
        refine sy_iload_n X d_M_word_31 hl 1 rfl ?_
        refine sy_iload_n X d_M_word_32 hl 2 rfl ?_
        refine sy_iload_n X d_M_word_33 hl 3 rfl ?_
        refine sy_iload X d_M_word_34 hl 4 rfl ?_
        have hok : okQ t q kd tt e0 := by omega
        refine call_Vi (Xs := []) (b := ad 0) (As := [.int (iI kd), .int (iI tt), .int (iI e0), .int (iI lw)]) (rest := []) X lk_M_154 (c_M_lowest l D cs ad M N t q hR hI kd tt e0 k0 k1 k2 lw k3 hok) ⟨by decide, by decide⟩ rcv_M hw rfl hl.1 (Nat.le_of_ble_eq_true rfl) d_M_word_36 rfl rfl ⟨Nat.zero_le _, Nat.zero_le _⟩ (fun M1 H locs pl hw => ?_)
        obtain ⟨N1, hQ, hC, h96, h97⟩ := pl
        obtain ⟨x, hx⟩ : ∃ x : Nat, x = if lw = 0 then 96 else 97 := ⟨_, rfl⟩
        rw [← hx]
        have hx2 : x < 120 := by rw [hx]; split <;> decide
        have hvx : N1 x = if lw = 0 then lwN (N1 (ixU kd tt e0)) (N1 (ixL kd tt e0)) else lwD (N1 (ixU kd tt e0)) (N1 (ixL kd tt e0)) := by rw [hx]; split <;> assumption
        obtain ⟨u, hu, hu1, hdx, hvl, hlt, htop, -⟩ := (hQ.1 x hx2).dig
        have hWf := hQ.1.wf
        refine sy_istore (lv1 := [(6, .int (iI ((x : Nat) : Int))), (0, .ref (ad 0)), (1, .int (iI kd)), (2, .int (iI tt)), (3, .int (iI e0)), (4, .int (iI lw)), (5, .int (iI ((kn : Nat) : Int)))]) X d_M_word_39 hl (by decide) rfl (fun ls hl => ?_)
        refine sy_aload_n X d_M_word_41 hl 1 rfl ?_
        refine sy_iload X d_M_word_42 hl 0 rfl ?_
        refine sy_iconst X d_M_word_44 ?_
        refine sy_iload X d_M_word_45 hl 6 rfl ?_
        refine sy_imul X d_M_word_47 ?_
        refine call_Vi (Xs := []) (b := ad 0) (As := [.int (iI ((x : Nat) : Int)), .int (iI (2 * ((kn : Nat) : Int)))]) (rest := []) X lk_M_40 (c_M_digitOf l D cs ad M1 x (2 * kn) (by omega) (by omega) hWf) ⟨by decide, by decide⟩ rcv_M hw rfl hl.1 (Nat.le_of_ble_eq_true rfl) d_M_word_48 rfl rfl ⟨Nat.zero_le _, Nat.zero_le _⟩ (fun _ H locs _ hw => ?_)
        have hb1 := hdx (2 * kn + 1) (2 * kn) (by omega)
        refine sy_i2l X d_M_word_51 ⟨by omega, by omega⟩ ?_
        refine sy_ldc2 (z := 65536) X (tt_of k618 rfl) d_M_word_52 (by decide) ?_
        refine sy_aload_n X d_M_word_55 hl 1 rfl ?_
        refine sy_iload X d_M_word_56 hl 0 rfl ?_
        refine sy_iconst X d_M_word_58 ?_
        refine sy_iload X d_M_word_59 hl 6 rfl ?_
        refine sy_imul X d_M_word_61 ?_
        refine sy_iconst X d_M_word_62 ?_
        refine sy_iadd X d_M_word_63 ?_
        refine call_Vi (Xs := []) (b := ad 0) (As := [.int (iI ((x : Nat) : Int)), .int (iI ((2 * ((kn : Nat) : Int)) + 1))]) (rest := [.long (jI 65536), .long (jI (dgt M1 x (2 * kn)))]) X lk_M_40 (c_M_digitOf l D cs ad M1 x ((2 * kn) + 1) (by omega) (by omega) hWf) ⟨by decide, by decide⟩ rcv_M hw rfl hl.1 (Nat.le_of_ble_eq_true rfl) d_M_word_64 rfl rfl ⟨Nat.zero_le _, Nat.zero_le _⟩ (fun _ H locs _ hw => ?_)
        have hb2 := hdx (2 * kn + 1 + 1) (2 * kn + 1) (by omega)
        refine sy_i2l X d_M_word_67 ⟨by omega, by omega⟩ ?_
        refine sy_lmul X d_M_word_68 ?_
        refine sy_ladd X d_M_word_69 ?_
        exact kr (dgt M1 x (2 * kn) + 65536 * dgt M1 x (2 * kn + 1), M1) _ _ _ _ _ d_M_word_70 hw (Or.inr (Or.inr ⟨hok, by omega, N1, hQ, hC, by rw [← hvx, Int.toNat_natCast]; exact wd_word hdx (fun v hv => hvl v (by omega))⟩)) rfl
      · refine sy_ldc2 (z := -3) X (tt_of k693 rfl) d_M_word_26 (by decide) ?_
        exact kr (-3, M) _ _ _ _ _ d_M_word_29 hw (Or.inr (Or.inl ⟨by omega, by omega, rfl⟩)) rfl
  · refine sy_ldc2 (z := -2) X (tt_of k692 rfl) d_M_word_10 (by decide) ?_
    exact kr (-2, M) _ _ _ _ _ d_M_word_13 hw (Or.inl ⟨by assumption, rfl⟩) rfl
