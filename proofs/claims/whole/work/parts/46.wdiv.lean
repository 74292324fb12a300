theorem inv_step {od v m t : Int} (h : od * v - 1 = m * t) : od * (v * (2 - od * v)) - 1 = (m * m) * (-(t * t)) := by grind
theorem inv_mod {od x M N2 : Int} (hM : 0 < M) (hd : M ∣ N2) (h : ∃ t, od * x - 1 = M * t) : ∃ t, od * (x % N2) - 1 = M * t := by
  obtain ⟨t, ht⟩ := h
  obtain ⟨k, hk⟩ := hd
  refine ⟨t - od * k * (x / N2), ?_⟩
  have := Int.emod_add_mul_ediv x N2
  generalize x / N2 = q at *
  generalize x % N2 = r at *
  subst hk
  grind
theorem odd8 {od : Int} (h : od % 2 = 1) : ∃ t, od * od - 1 = 8 * t := by
  obtain ⟨k, hk⟩ : ∃ k, od = 2 * k + 1 := ⟨od / 2, by omega⟩
  rcases (show k % 2 = 0 ∨ k % 2 = 1 by omega) with g | g
  · obtain ⟨q, hq⟩ : ∃ q, k = 2 * q := ⟨k / 2, by omega⟩
    refine ⟨2 * q * q + q, ?_⟩
    subst hq; subst hk; grind
  · obtain ⟨q, hq⟩ : ∃ q, k = 2 * q + 1 := ⟨k / 2, by omega⟩
    refine ⟨2 * q * q + 3 * q + 1, ?_⟩
    subst hq; subst hk; grind
theorem inv_all {od : Int} (h : od % 2 = 1) (v1 v2 v3 v4 : Int) (e1 : v1 = od * (2 - od * od) % 4294967296) (e2 : v2 = v1 * (2 - od * v1) % 4294967296) (e3 : v3 = v2 * (2 - od * v2) % 4294967296) (e4 : v4 = v3 * (2 - od * v3) % 4294967296) : od * v4 % 4294967296 = 1 := by
  obtain ⟨t0, h0⟩ := odd8 h
  have s1 : ∃ t, od * v1 - 1 = 64 * t := by rw [e1]; exact inv_mod (by decide) (by decide) ⟨_, inv_step h0⟩
  obtain ⟨t1, h1⟩ := s1
  have s2 : ∃ t, od * v2 - 1 = 4096 * t := by rw [e2]; exact inv_mod (by decide) (by decide) ⟨_, inv_step h1⟩
  obtain ⟨t2, h2⟩ := s2
  have s3 : ∃ t, od * v3 - 1 = 16777216 * t := by rw [e3]; exact inv_mod (by decide) (by decide) ⟨_, inv_step h2⟩
  obtain ⟨t3, h3⟩ := s3
  have s4 : ∃ t, od * v4 - 1 = 4294967296 * t := by
    rw [e4]
    refine inv_mod (by decide) (by decide) ⟨65536 * (-(t3 * t3)), ?_⟩
    rw [inv_step h3]; grind
  obtain ⟨t4, h4⟩ := s4
  have : od * v4 = 1 + 4294967296 * t4 := by omega
  rw [this, Int.add_mul_emod_self_left]; rfl
set_option maxRecDepth 100000 in
set_option maxHeartbeats 4000000 in
theorem c_W_inverseOfLimb (l : Launch) (D : va_G) (cs : Nat → ClassId) (ws : va_W) (od : Int) (h0 : 0 ≤ od ∧ od < 4294967296) (h1 : od % 2 = 1) : Ct (S := Int) l D (tyL cs) y_W_inverseOfLimb b_W_inverseOfLimb 5 (some .long) (rm 1) [.long (jI od)] (ws) (fun v => 0 ≤ v ∧ v < 4294967296 ∧ od * v % 4294967296 = 1) (fun v => some (.long (jI v))) (fun _ => ws) := by
  refine Ct.introJ (by decide) (Nat.le_of_ble_eq_true rfl) ?_
  intro p e s m below meth c A args Q H locs X hnm hw kr ls hl
  have X : CX D (tyL cs) R_W b_W_inverseOfLimb 5 p m c s args := X
  have hl : lv_has ls 5 [(0, .long (jI od))] := hl
  refine sy_lload_n X d_W_inverseOfLimb_0 hl 0 rfl ?_
  refine sy_lstore_n (lv1 := [(2, .long (jI od)), (0, .long (jI od))]) X d_W_inverseOfLimb_1 hl rfl (by decide) rfl (fun ls hl => ?_)
  refine sy_iconst X d_W_inverseOfLimb_2 ?_
  refine sy_istore (lv1 := [(4, .int (iI 3)), (2, .long (jI od)), (0, .long (jI od))]) X d_W_inverseOfLimb_3 hl (by decide) rfl (fun ls hl => ?_)
  refine sy_iload X d_W_inverseOfLimb_5 hl 0 rfl ?_
  refine sy_bipush X d_W_inverseOfLimb_7 (by decide) ?_
  refine sy_icmp_ge (tgt := 35) X d_W_inverseOfLimb_9 (by decide) ⟨by decide, by decide⟩ ⟨by decide, by decide⟩ (fun c1 => ?_) (fun c1 => ?_)
  · exact absurd c1 (by decide)
  · refine sy_lload_n X d_W_inverseOfLimb_12 hl 1 rfl ?_
    refine sy_ldc2 (z := 2) X (tt_of k458 rfl) d_W_inverseOfLimb_13 (by decide) ?_
    refine sy_lload_n X d_W_inverseOfLimb_16 hl 2 rfl ?_
    refine sy_lload_n X d_W_inverseOfLimb_17 hl 1 rfl ?_
    refine sy_lmul X d_W_inverseOfLimb_18 ?_
    refine sy_lsub X d_W_inverseOfLimb_19 ?_
    refine sy_lmul X d_W_inverseOfLimb_20 ?_
    refine sy_ldc2 (z := 4294967295) X (tt_of k197 rfl) d_W_inverseOfLimb_21 (by decide) ?_
    refine sy_land X 32 4294967296 d_W_inverseOfLimb_24 (by decide) (by decide) (by decide) ?_
    refine nm_l (fun v1 hv1 => ?_)
    refine sy_lstore_n (lv1 := [(2, .long (jI v1)), (4, .int (iI 3)), (0, .long (jI od))]) X d_W_inverseOfLimb_25 hl rfl (by decide) rfl (fun ls hl => ?_)
    refine sy_iload X d_W_inverseOfLimb_26 hl 1 rfl ?_
    refine sy_iconst X d_W_inverseOfLimb_28 ?_
    refine sy_imul X d_W_inverseOfLimb_29 ?_
    refine sy_istore (lv1 := [(4, .int (iI (3 * 2))), (2, .long (jI v1)), (0, .long (jI od))]) X d_W_inverseOfLimb_30 hl (by decide) rfl (fun ls hl => ?_)
    refine sy_goto (tgt := 5) X d_W_inverseOfLimb_32 (by decide) ?_
    refine sy_iload X d_W_inverseOfLimb_5 hl 0 rfl ?_
    refine sy_bipush X d_W_inverseOfLimb_7 (by decide) ?_
    refine sy_icmp_ge (tgt := 35) X d_W_inverseOfLimb_9 (by decide) ⟨by decide, by decide⟩ ⟨by decide, by decide⟩ (fun c2 => ?_) (fun c2 => ?_)
    · exact absurd c2 (by decide)
    · refine sy_lload_n X d_W_inverseOfLimb_12 hl 1 rfl ?_
      refine sy_ldc2 (z := 2) X (tt_of k458 rfl) d_W_inverseOfLimb_13 (by decide) ?_
      refine sy_lload_n X d_W_inverseOfLimb_16 hl 2 rfl ?_
      refine sy_lload_n X d_W_inverseOfLimb_17 hl 1 rfl ?_
      refine sy_lmul X d_W_inverseOfLimb_18 ?_
      refine sy_lsub X d_W_inverseOfLimb_19 ?_
      refine sy_lmul X d_W_inverseOfLimb_20 ?_
      refine sy_ldc2 (z := 4294967295) X (tt_of k197 rfl) d_W_inverseOfLimb_21 (by decide) ?_
      refine sy_land X 32 4294967296 d_W_inverseOfLimb_24 (by decide) (by decide) (by decide) ?_
      refine nm_l (fun v2 hv2 => ?_)
      refine sy_lstore_n (lv1 := [(2, .long (jI v2)), (4, .int (iI (3 * 2))), (0, .long (jI od))]) X d_W_inverseOfLimb_25 hl rfl (by decide) rfl (fun ls hl => ?_)
      refine sy_iload X d_W_inverseOfLimb_26 hl 1 rfl ?_
      refine sy_iconst X d_W_inverseOfLimb_28 ?_
      refine sy_imul X d_W_inverseOfLimb_29 ?_
      refine sy_istore (lv1 := [(4, .int (iI ((3 * 2) * 2))), (2, .long (jI v2)), (0, .long (jI od))]) X d_W_inverseOfLimb_30 hl (by decide) rfl (fun ls hl => ?_)
      refine sy_goto (tgt := 5) X d_W_inverseOfLimb_32 (by decide) ?_
      refine sy_iload X d_W_inverseOfLimb_5 hl 0 rfl ?_
      refine sy_bipush X d_W_inverseOfLimb_7 (by decide) ?_
      refine sy_icmp_ge (tgt := 35) X d_W_inverseOfLimb_9 (by decide) ⟨by decide, by decide⟩ ⟨by decide, by decide⟩ (fun c3 => ?_) (fun c3 => ?_)
      · exact absurd c3 (by decide)
      · refine sy_lload_n X d_W_inverseOfLimb_12 hl 1 rfl ?_
        refine sy_ldc2 (z := 2) X (tt_of k458 rfl) d_W_inverseOfLimb_13 (by decide) ?_
        refine sy_lload_n X d_W_inverseOfLimb_16 hl 2 rfl ?_
        refine sy_lload_n X d_W_inverseOfLimb_17 hl 1 rfl ?_
        refine sy_lmul X d_W_inverseOfLimb_18 ?_
        refine sy_lsub X d_W_inverseOfLimb_19 ?_
        refine sy_lmul X d_W_inverseOfLimb_20 ?_
        refine sy_ldc2 (z := 4294967295) X (tt_of k197 rfl) d_W_inverseOfLimb_21 (by decide) ?_
        refine sy_land X 32 4294967296 d_W_inverseOfLimb_24 (by decide) (by decide) (by decide) ?_
        refine nm_l (fun v3 hv3 => ?_)
        refine sy_lstore_n (lv1 := [(2, .long (jI v3)), (4, .int (iI ((3 * 2) * 2))), (0, .long (jI od))]) X d_W_inverseOfLimb_25 hl rfl (by decide) rfl (fun ls hl => ?_)
        refine sy_iload X d_W_inverseOfLimb_26 hl 1 rfl ?_
        refine sy_iconst X d_W_inverseOfLimb_28 ?_
        refine sy_imul X d_W_inverseOfLimb_29 ?_
        refine sy_istore (lv1 := [(4, .int (iI (((3 * 2) * 2) * 2))), (2, .long (jI v3)), (0, .long (jI od))]) X d_W_inverseOfLimb_30 hl (by decide) rfl (fun ls hl => ?_)
        refine sy_goto (tgt := 5) X d_W_inverseOfLimb_32 (by decide) ?_
        refine sy_iload X d_W_inverseOfLimb_5 hl 0 rfl ?_
        refine sy_bipush X d_W_inverseOfLimb_7 (by decide) ?_
        refine sy_icmp_ge (tgt := 35) X d_W_inverseOfLimb_9 (by decide) ⟨by decide, by decide⟩ ⟨by decide, by decide⟩ (fun c4 => ?_) (fun c4 => ?_)
        · exact absurd c4 (by decide)
        · refine sy_lload_n X d_W_inverseOfLimb_12 hl 1 rfl ?_
          refine sy_ldc2 (z := 2) X (tt_of k458 rfl) d_W_inverseOfLimb_13 (by decide) ?_
          refine sy_lload_n X d_W_inverseOfLimb_16 hl 2 rfl ?_
          refine sy_lload_n X d_W_inverseOfLimb_17 hl 1 rfl ?_
          refine sy_lmul X d_W_inverseOfLimb_18 ?_
          refine sy_lsub X d_W_inverseOfLimb_19 ?_
          refine sy_lmul X d_W_inverseOfLimb_20 ?_
          refine sy_ldc2 (z := 4294967295) X (tt_of k197 rfl) d_W_inverseOfLimb_21 (by decide) ?_
          refine sy_land X 32 4294967296 d_W_inverseOfLimb_24 (by decide) (by decide) (by decide) ?_
          refine nm_l (fun v4 hv4 => ?_)
          refine sy_lstore_n (lv1 := [(2, .long (jI v4)), (4, .int (iI (((3 * 2) * 2) * 2))), (0, .long (jI od))]) X d_W_inverseOfLimb_25 hl rfl (by decide) rfl (fun ls hl => ?_)
          refine sy_iload X d_W_inverseOfLimb_26 hl 1 rfl ?_
          refine sy_iconst X d_W_inverseOfLimb_28 ?_
          refine sy_imul X d_W_inverseOfLimb_29 ?_
          refine sy_istore (lv1 := [(4, .int (iI ((((3 * 2) * 2) * 2) * 2))), (2, .long (jI v4)), (0, .long (jI od))]) X d_W_inverseOfLimb_30 hl (by decide) rfl (fun ls hl => ?_)
          refine sy_goto (tgt := 5) X d_W_inverseOfLimb_32 (by decide) ?_
          refine sy_iload X d_W_inverseOfLimb_5 hl 0 rfl ?_
          refine sy_bipush X d_W_inverseOfLimb_7 (by decide) ?_
          refine sy_icmp_ge (tgt := 35) X d_W_inverseOfLimb_9 (by decide) ⟨by decide, by decide⟩ ⟨by decide, by decide⟩ (fun c5 => ?_) (fun c5 => ?_)
          · refine sy_lload_n X d_W_inverseOfLimb_35 hl 1 rfl ?_
            exact kr v4 _ _ _ _ _ d_W_inverseOfLimb_36 hw ⟨by rw [hv4]; exact (mq0 _).1, by rw [hv4]; exact (mq0 _).2, inv_all h1 v1 v2 v3 v4 hv1 hv2 hv3 hv4⟩ rfl
          · exact absurd c5 (by decide)
theorem two_div {Z : Int} {r : Nat} (h : Z % 2 ^ r = 0) : Z = Z / 2 ^ r * 2 ^ r := by
  have := Int.emod_add_mul_ediv Z (2 ^ r); rw [h, Int.mul_comm] at this; omega
theorem dt_lt {za Z : Int} {i : Nat} (hz : za < 1461501637330902918203684832716283019655932542976) (hZ : 0 < Z) (h : za = Z * 2 ^ (32 * i)) : i ≤ 4 := by
  rcases Nat.lt_or_ge 4 i with g | g
  · have h5 : (2 : Int) ^ 160 ≤ 2 ^ (32 * i) := p2le (by omega)
    rw [show (2 : Int) ^ 160 = 1461501637330902918203684832716283019655932542976 by decide] at h5
    have := Int.mul_le_mul_of_nonneg_right (show (1 : Int) ≤ Z from hZ) (Int.le_of_lt (p2pos (32 * i)))
    omega
  · exact g
set_option maxRecDepth 100000 in
set_option maxHeartbeats 4000000 in
theorem c_W_dropTwos (l : Launch) (D : va_G) (cs : Nat → ClassId) (ad : Nat → Nat → Nat) (z : Nat → Int) (a : Nat) (ha : a < 121) (hr : U160 (z a)) (hp : 0 < z a) : Ct (S := Int) l D (tyL cs) y_W_dropTwos b_W_dropTwos 3 none (rm 2) [.ref (ad 0 a)] (wZ ad cs z) (fun Z => 0 < Z ∧ Z % 2 = 1 ∧ ∃ t : Nat, z a = Z * 2 ^ t) (fun _ => none) (fun Z => wZ ad cs (up1 z a Z)) := by
  refine Ct.introV (by decide) (Nat.le_of_ble_eq_true rfl) (fun _ => rfl) ?_
  intro p e s m below meth c A args Q H locs X hnm hw kr ls hl
  have X : CX D (tyL cs) R_W b_W_dropTwos 3 p m c s args := X
  have hl : lv_has ls 3 [(0, .ref (ad 0 a))] := hl
  have hr1 := hr.1
  have hr2 := hr.2
  have ez : z = up1 z a (z a) := by funext j; by_cases h : j = a <;> simp [up1, h]
  refine sy_aload_n X d_W_dropTwos_0 hl 0 rfl ?_
  refine call_Vi (Xs := []) (b := ad 0 a) (As := []) (rest := []) X lk_W_40 (c_W_lowZeros l D cs ad z a ha) ⟨by decide, by decide⟩ (rcv_W ha) hw rfl hl.1 (Nat.le_of_ble_eq_true rfl) d_W_dropTwos_1 rfl rfl ⟨Nat.zero_le _, Nat.zero_le _⟩ (fun r1 H locs hp1 hw => ?_)
  refine sy_istore_n (lv1 := [(1, .int (iI ((r1 : Nat) : Int))), (0, .ref (ad 0 a))]) X d_W_dropTwos_4 hl rfl (by decide) rfl (fun ls hl => ?_)
  refine sy_iconst X d_W_dropTwos_5 ?_
  refine sy_istore_n (lv1 := [(2, .int (iI 0)), (1, .int (iI ((r1 : Nat) : Int))), (0, .ref (ad 0 a))]) X d_W_dropTwos_6 hl rfl (by decide) rfl (fun ls hl => ?_)
  have key : ∀ (n : Nat) (r i : Nat) (Z : Int) (t : Nat) (H : Heap) (locs : List Loc) (ls : Array Slot), r ≤ 32 → Z % 2 ^ r = 0 → (r = 32 ∨ Z / 2 ^ r % 2 = 1) → 0 < Z → z a = Z * 2 ^ t → (r = 0 ∨ t = 32 * i) → i ≤ 5 → 6 ≤ i + n → HW D A s.heap (wZ ad cs (up1 z a Z)) H locs → lv_has ls 3 [(0, .ref (ad 0 a)), (1, .int (iI ((r : Nat) : Int))), (2, .int (iI ((i : Nat) : Int)))] → W p l e (rm 2) s m args below meth c H locs 0 0 Q (F0 m 7 ls []) := by
    intro n
    induction n with
    | zero =>
      intro r i Z t H locs ls h1 h2 h3 h4 h5 h6 h7 h8 hw hl
      exfalso; omega
    | succ n ih_key =>
      intro r i Z t H locs ls h1 h2 h3 h4 h5 h6 h7 h8 hw hl
      have hZU : U160 Z := ⟨by omega, by
          have := Int.mul_le_mul_of_nonneg_left (show (1 : Int) ≤ 2 ^ t from p2pos t) (Int.le_of_lt h4)
          omega⟩
      refine sy_iload_n X d_W_dropTwos_7 hl 1 rfl ?_
      refine sy_if_le (tgt := 32) X d_W_dropTwos_8 (by decide) ⟨by omega, by omega⟩ (fun c1 => ?_) (fun c1 => ?_)
      · have hr0 : r = 0 := by omega
        subst hr0
        exact kr Z _ _ _ _ d_W_dropTwos_32 hw ⟨h4, by rcases h3 with g | g; omega; simpa using g, t, h5⟩
      · refine sy_iload_n X d_W_dropTwos_11 hl 2 rfl ?_
        refine sy_iconst X d_W_dropTwos_12 ?_
        refine sy_icmp_gt (tgt := 32) X d_W_dropTwos_13 (by decide) ⟨by omega, by omega⟩ ⟨by omega, by omega⟩ (fun c2 => ?_) (fun c2 => ?_)
        · exfalso; omega
        · have hi4 : i ≤ 4 := dt_lt hr2 h4 (by rw [h5, show t = 32 * i by omega])
          refine sy_aload_n X d_W_dropTwos_16 hl 0 rfl ?_
          refine sy_iload_n X d_W_dropTwos_17 hl 1 rfl ?_
          refine call_Vv (Xs := []) (b := ad 0 a) (As := [.int (iI ((r : Nat) : Int))]) (rest := []) X lk_W_44 (c_W_shiftRight l D cs ad (up1 z a Z) a r ha h1 (by rw [up1_s]; exact hZU)) ⟨by decide, by decide⟩ (rcv_W ha) hw rfl hl.1 (Nat.le_of_ble_eq_true rfl) d_W_dropTwos_18 rfl rfl ⟨Nat.zero_le _, Nat.zero_le _⟩ (fun _ H locs _ hw => ?_)
          rw [up1_s, up1_up1] at hw
          refine sy_aload_n X d_W_dropTwos_21 hl 0 rfl ?_
          refine call_Vi (Xs := []) (b := ad 0 a) (As := []) (rest := []) X lk_W_40 (c_W_lowZeros l D cs ad (up1 z a (Z / 2 ^ r)) a ha) ⟨by decide, by decide⟩ (rcv_W ha) hw rfl hl.1 (Nat.le_of_ble_eq_true rfl) d_W_dropTwos_22 rfl rfl ⟨Nat.zero_le _, Nat.zero_le _⟩ (fun r1 H locs hp1 hw => ?_)
          refine sy_istore_n (lv1 := [(1, .int (iI ((r1 : Nat) : Int))), (0, .ref (ad 0 a)), (2, .int (iI ((i : Nat) : Int)))]) X d_W_dropTwos_25 hl rfl (by decide) rfl (fun ls hl => ?_)
          rw [up1_s] at hp1
          have hZe := two_div h2
          have hZ1 : 0 < Z / 2 ^ r := by
            rcases Int.lt_or_le 0 (Z / 2 ^ r) with g | g
            · exact g
            · have := Int.mul_le_mul_of_nonneg_right g (Int.le_of_lt (p2pos r)); omega
          have hr6 : r1 = 0 ∨ t + r = 32 * (i + 1) := by
            rcases h3 with g | g
            · right; omega
            · left
              rcases Nat.eq_zero_or_pos r1 with e | e
              · exact e
              · exfalso
                have h9 := hp1.2.1
                have : (2 : Int) ∣ 2 ^ r1 := ⟨2 ^ (r1 - 1), by rw [show r1 = (r1 - 1) + 1 by omega, Int.pow_succ, Int.mul_comm, Nat.add_sub_cancel]⟩
                have h10 : (2 : Int) ∣ Z / 2 ^ r := Int.dvd_trans this (Int.dvd_of_emod_eq_zero h9)
                omega
          refine sy_iinc (lv1 := [(2, .int (iI ((i + 1 : Nat) : Int))), (1, .int (iI ((r1 : Nat) : Int))), (0, .ref (ad 0 a))]) X d_W_dropTwos_26 hl 2 rfl (by omega) (by decide) rfl (fun ls hl => ?_)
          refine sy_goto (tgt := 7) X d_W_dropTwos_29 (by decide) ?_
          exact ih_key r1 (i + 1) (Z / 2 ^ r) (t + r) H locs ls hp1.1 hp1.2.1 hp1.2.2 hZ1 (by rw [Nat.add_comm t r, Int.pow_add, ← Int.mul_assoc, ← hZe]; exact h5) hr6 (by omega) (by omega) hw (lv_sub hl [2, 1, 0] rfl)
  have hw : HW D A s.heap (wZ ad cs (up1 z a (z a))) H locs := by rw [← ez]; exact hw
  exact key 6 r1 0 (z a) 0 H locs ls hp1.1 hp1.2.1 hp1.2.2 hp (by simp) (by omega) (by omega) (by omega) hw (lv_sub hl [2, 1, 0] rfl)
theorem tk_step {VR cy V0 D0 d q l P b pr : Int} (hpr : pr = d * q + cy) (h : VR - cy * P = V0 - q * D0) (hb : (b = 0 ∨ b = 1)) : (VR + ((l - pr % 4294967296 + 4294967296 * b) - l) * P) - (pr / 4294967296 + b) * (P * 4294967296) = V0 - q * (D0 + d * P) := by
  have := Int.emod_add_mul_ediv pr 4294967296
  generalize pr % 4294967296 = x at *
  generalize pr / 4294967296 = y at *
  grind
theorem tk_fin {f : Nat → Int} {cy ZA ZB q : Int} {up : Nat} (hup : up ≤ 5) (hb : Lb f 5) (h : vL f 5 - cy * 4294967296 ^ 5 = low ZA 5 - q * (low ZB (5 - up) * 4294967296 ^ up)) : ∀ j, j < 5 → f j = lim (ZA - q * ZB * 4294967296 ^ up) j := by
  refine lim_fin hb ?_
  have e2 : low ZB (5 - up) = ZB - 4294967296 ^ (5 - up) * (ZB / 4294967296 ^ (5 - up)) := by have e := Int.emod_add_mul_ediv ZB (4294967296 ^ (5 - up)); unfold low; omega
  have e3 : low ZA 5 = ZA - 4294967296 ^ 5 * (ZA / 4294967296 ^ 5) := by have e := Int.emod_add_mul_ediv ZA (4294967296 ^ 5); unfold low; omega
  have e5 : (4294967296 : Int) ^ 5 = 4294967296 ^ (5 - up) * 4294967296 ^ up := by rw [← Int.pow_add]; congr 1; omega
  refine low_eq (t := cy - ZA / 4294967296 ^ 5 + q * (ZB / 4294967296 ^ (5 - up))) ?_
  rw [e2, e3] at h
  generalize ZA / 4294967296 ^ 5 = qa at *
  generalize ZB / 4294967296 ^ (5 - up) = qb at *
  rw [e5] at h ⊢
  generalize (4294967296 : Int) ^ (5 - up) = P1 at *
  generalize (4294967296 : Int) ^ up = P2 at *
  grind
set_option maxRecDepth 100000 in
set_option maxHeartbeats 4000000 in
theorem c_W_takeTimes (l : Launch) (D : va_G) (cs : Nat → ClassId) (ad : Nat → Nat → Nat) (z : Nat → Int) (a b : Nat) (q : Int) (up : Nat) (ha : a < 121) (hb : b < 121) (hba : b ≠ a) (hq : 0 ≤ q ∧ q < 4294967296) (hup : up ≤ 5) : Ct (S := Unit) l D (tyL cs) y_W_takeTimes b_W_takeTimes 12 none (rm 1) [.ref (ad 0 a), .ref (ad 0 b), .long (jI q), .int (iI ((up : Nat) : Int))] (wZ ad cs z) (fun _ => True) (fun _ => none) (fun _ => wZ ad cs (up1 z a (z a - q * z b * 4294967296 ^ up))) := by
  refine Ct.introV (by decide) (Nat.le_of_ble_eq_true rfl) (fun _ => rfl) ?_
  intro p e s m below meth c A args Q H locs X hnm hw kr ls hl
  have X : CX D (tyL cs) R_W b_W_takeTimes 12 p m c s args := X
  have hl : lv_has ls 12 [(0, .ref (ad 0 a)), (1, .ref (ad 0 b)), (2, .long (jI q)), (4, .int (iI ((up : Nat) : Int)))] := hl
  obtain ⟨V, hV⟩ : ∃ g : Nat → Nat → Int, g = fun k => lim (z k) := ⟨_, rfl⟩
  have hw : HW D A s.heap (wW ad cs V) H locs := by rw [hV]; exact hw
  have eV := upA_V hV a
  refine sy_lconst (z := 0) X d_W_takeTimes_0 (by decide) ?_
  refine sy_lstore (lv1 := [(5, .long (jI 0)), (0, .ref (ad 0 a)), (1, .ref (ad 0 b)), (2, .long (jI q)), (4, .int (iI ((up : Nat) : Int)))]) X d_W_takeTimes_1 hl (by decide) rfl (fun ls hl => ?_)
  refine sy_iconst X d_W_takeTimes_3 ?_
  refine sy_istore (lv1 := [(7, .int (iI 0)), (5, .long (jI 0)), (0, .ref (ad 0 a)), (1, .ref (ad 0 b)), (2, .long (jI q)), (4, .int (iI ((up : Nat) : Int)))]) X d_W_takeTimes_4 hl (by decide) rfl (fun ls hl => ?_)
  have key : ∀ (n : Nat) (j : Nat) (f : Nat → Int) (cy : Int) (H : Heap) (locs : List Loc) (ls : Array Slot), up + j ≤ 5 → 5 < up + j + n → Lb f 5 → 0 ≤ cy ∧ cy < 4294967296 → vL f 5 - cy * 4294967296 ^ (up + j) = low (z a) 5 - q * (low (z b) j * 4294967296 ^ up) → HW D A s.heap (wW ad cs (upA V a f)) H locs → lv_has ls 12 [(0, .ref (ad 0 a)), (1, .ref (ad 0 b)), (2, .long (jI q)), (4, .int (iI ((up : Nat) : Int))), (5, .long (jI cy)), (7, .int (iI ((j : Nat) : Int)))] → W p l e (rm 1) s m args below meth c H locs 0 0 Q (F0 m 6 ls []) := by
    intro n
    induction n with
    | zero =>
      intro j f cy H locs ls h1 h2 h3 h4 h5 hw hl
      exfalso; omega
    | succ n ih_key =>
      intro j f cy H locs ls h1 h2 h3 h4 h5 hw hl
      refine sy_iload X d_W_takeTimes_6 hl 3 rfl ?_
      refine sy_iload X d_W_takeTimes_8 hl 5 rfl ?_
      refine sy_iadd X d_W_takeTimes_10 ?_
      refine sy_iconst X d_W_takeTimes_11 ?_
      refine sy_icmp_ge (tgt := 91) X d_W_takeTimes_12 (by decide) ⟨by omega, by omega⟩ ⟨by omega, by omega⟩ (fun c1 => ?_) (fun c1 => ?_)
      · have hj : j = 5 - up := by omega
        rw [show up + j = 5 by omega, hj] at h5
        exact kr () _ _ _ _ d_W_takeTimes_91 (hw.fin hV (tk_fin hup h3 h5)) trivial
      · have hld := lim_rng (z b) j
        have hlf := h3 (up + j) (by omega)
        have hdq : 0 ≤ lim (z b) j * q ∧ lim (z b) j * q ≤ 4294967295 * 4294967295 := ⟨Int.mul_nonneg hld.1 hq.1, Int.mul_le_mul (by omega) (by omega) hq.1 (by decide)⟩
        refine sy_aload_n X d_W_takeTimes_15 hl 1 rfl ?_
        refine w_get X hw hb (tt_of k110 rfl) d_W_takeTimes_16 ?_
        refine sy_iload X d_W_takeTimes_19 hl 5 rfl ?_
        refine w_ald X hw b j hb (by omega) (by omega) (lim (z b) j) (by rw [upA_n _ hba, hV]) d_W_takeTimes_21 ?_
        refine sy_lload_n X d_W_takeTimes_22 hl 2 rfl ?_
        refine sy_lmul X d_W_takeTimes_23 ?_
        refine sy_lload X d_W_takeTimes_24 hl 4 rfl ?_
        refine sy_ladd X d_W_takeTimes_26 ?_
        refine nm_l (fun pr hpr => ?_)
        refine sy_lstore (lv1 := [(8, .long (jI pr)), (0, .ref (ad 0 a)), (1, .ref (ad 0 b)), (2, .long (jI q)), (4, .int (iI ((up : Nat) : Int))), (5, .long (jI cy)), (7, .int (iI ((j : Nat) : Int)))]) X d_W_takeTimes_27 hl (by decide) rfl (fun ls hl => ?_)
        refine sy_aload_n X d_W_takeTimes_29 hl 1 rfl ?_
        refine w_get X hw ha (tt_of k110 rfl) d_W_takeTimes_30 ?_
        refine sy_iload X d_W_takeTimes_33 hl 4 rfl ?_
        refine sy_iload X d_W_takeTimes_35 hl 6 rfl ?_
        refine sy_iadd X d_W_takeTimes_37 ?_
        refine w_ald X hw a (up + j) ha (by omega) (by omega) (f (up + j)) (by rw [upA_s]) d_W_takeTimes_38 ?_
        refine sy_lload X d_W_takeTimes_39 hl 0 rfl ?_
        refine sy_ldc2 (z := 4294967295) X (tt_of k197 rfl) d_W_takeTimes_41 (by decide) ?_
        refine sy_land X 32 4294967296 d_W_takeTimes_44 (by decide) (by decide) (by decide) ?_
        refine sy_lsub X d_W_takeTimes_45 ?_
        refine nm_l (fun rs hrs => ?_)
        refine sy_lstore (lv1 := [(10, .long (jI rs)), (8, .long (jI pr)), (0, .ref (ad 0 a)), (1, .ref (ad 0 b)), (2, .long (jI q)), (4, .int (iI ((up : Nat) : Int))), (5, .long (jI cy)), (7, .int (iI ((j : Nat) : Int)))]) X d_W_takeTimes_46 hl (by decide) rfl (fun ls hl => ?_)
        have hrs2 : -4294967296 < rs ∧ rs < 4294967296 := by have := mq0 pr; omega
        refine sy_aload_n X d_W_takeTimes_48 hl 2 rfl ?_
        refine w_get X hw ha (tt_of k110 rfl) d_W_takeTimes_49 ?_
        refine sy_iload X d_W_takeTimes_52 hl 5 rfl ?_
        refine sy_iload X d_W_takeTimes_54 hl 7 rfl ?_
        refine sy_iadd X d_W_takeTimes_56 ?_
        refine sy_lload X d_W_takeTimes_57 hl 0 rfl ?_
        refine sy_ldc2 (z := 4294967295) X (tt_of k197 rfl) d_W_takeTimes_59 (by decide) ?_
        refine sy_land X 32 4294967296 d_W_takeTimes_62 (by decide) (by decide) (by decide) ?_
        refine w_ast X hw a (up + j) ha (by omega) (by omega) d_W_takeTimes_63 (fun H locs hw => ?_)
        rw [upA_s, upA_A] at hw
        obtain ⟨f1, ef1⟩ : ∃ g, g = up1 f (up + j) (rs % 4294967296) := ⟨_, rfl⟩
        rw [← ef1] at hw
        refine sy_lload X d_W_takeTimes_64 hl 1 rfl ?_
        refine sy_bipush X d_W_takeTimes_66 (by decide) ?_
        refine sy_lushr X 4294967296 d_W_takeTimes_68 (by omega) (by omega) (by decide) (by decide) (by decide) ?_
        have km2 : ∀ (H : Heap) (locs : List Loc), HW D A s.heap (wW ad cs (upA V a f1)) H locs → W p l e (rm 1) s m args below meth c H locs 0 0 Q (F0 m 81 ls [.int (iI (if rs < 0 then 1 else 0)), .long (jI (pr / 4294967296))]) := by
          intro H locs hw
          obtain ⟨bb, hbb⟩ : ∃ bb : Int, bb = if rs < 0 then 1 else 0 := ⟨_, rfl⟩
          have hb01 : bb = 0 ∨ bb = 1 := by rw [hbb]; split <;> simp
          have hrm : rs % 4294967296 = rs + 4294967296 * bb := by rw [hbb]; split <;> omega
          refine sy_i2l X d_W_takeTimes_81 (by split <;> exact ⟨by decide, by decide⟩) ?_
          refine sy_ladd X d_W_takeTimes_82 ?_
          refine sy_lstore (lv1 := [(5, .long (jI ((pr / 4294967296) + (if rs < 0 then 1 else 0)))), (10, .long (jI rs)), (8, .long (jI pr)), (0, .ref (ad 0 a)), (1, .ref (ad 0 b)), (2, .long (jI q)), (4, .int (iI ((up : Nat) : Int))), (7, .int (iI ((j : Nat) : Int)))]) X d_W_takeTimes_83 hl (by decide) rfl (fun ls hl => ?_)
          rw [← hbb] at hl
          have hcy2 : 0 ≤ pr / 4294967296 + bb ∧ pr / 4294967296 + bb < 4294967296 := by
            rw [hbb]; split <;> omega
          have hV2 : vL f1 5 - (pr / 4294967296 + bb) * 4294967296 ^ (up + (j + 1)) = low (z a) 5 - q * (low (z b) (j + 1) * 4294967296 ^ up) := by
            rw [ef1, vL_upd _ (by omega), hrm, hrs, ← Nat.add_assoc, P_succ, low_succ (z b) j]
            have := tk_step (l := f (up + j)) (d := lim (z b) j) (q := q) (D0 := low (z b) j * 4294967296 ^ up) (b := bb) (P := 4294967296 ^ (up + j)) hpr h5 hb01
            rw [this, Int.pow_add, Int.add_mul, Int.mul_comm (4294967296 ^ up) (4294967296 ^ j), Int.mul_assoc (lim (z b) j)]
          refine sy_iinc (lv1 := [(7, .int (iI ((j + 1 : Nat) : Int))), (5, .long (jI ((pr / 4294967296) + bb))), (10, .long (jI rs)), (8, .long (jI pr)), (0, .ref (ad 0 a)), (1, .ref (ad 0 b)), (2, .long (jI q)), (4, .int (iI ((up : Nat) : Int)))]) X d_W_takeTimes_85 hl 7 rfl (by omega) (by decide) rfl (fun ls hl => ?_)
          refine sy_goto (tgt := 6) X d_W_takeTimes_88 (by decide) ?_
          exact ih_key (j + 1) f1 _ H locs ls (by omega) (by omega) (by rw [ef1]; exact lb_upd h3 (mq0 _).1 (mq0 _).2) hcy2 hV2 hw (lv_sub hl [4, 5, 6, 7, 1, 0] rfl)
        refine sy_lload X d_W_takeTimes_69 hl 0 rfl ?_
        refine sy_lconst (z := 0) X d_W_takeTimes_71 (by decide) ?_
        refine sy_lcif_ge (tgt := 80) X d_W_takeTimes_72 d_W_takeTimes_73 (by decide) ⟨by omega, by omega⟩ ⟨by omega, by omega⟩ (fun c3 => ?_) (fun c3 => ?_)
        · refine sy_iconst X d_W_takeTimes_80 ?_
          exact W_topi (by split <;> omega) (km2 H locs hw)
        · refine sy_iconst X d_W_takeTimes_76 ?_
          refine sy_goto (tgt := 81) X d_W_takeTimes_77 (by decide) ?_
          exact W_topi (by split <;> omega) (km2 H locs hw)
  rw [eV] at hw
  exact key 6 0 (lim (z a)) 0 H locs ls (by omega) (by omega) (fun k _ => lim_rng _ k) (by omega) (by rw [vL_lim, low_0]; simp) hw (lv_sub hl [2, 3, 4, 5, 1, 0] rfl)
theorem lim_set {Z q : Int} {i : Nat} (hi : i < 5) (h : lim Z i = 0) (hq : 0 ≤ q ∧ q < 4294967296) : ∀ j, j < 5 → up1 (lim Z) i q j = lim (Z + q * 4294967296 ^ i) j := by
  refine lim_fin (lb_upd (fun k _ => lim_rng _ k) hq.1 hq.2) ?_
  rw [vL_upd _ hi, vL_lim, h, Int.sub_zero]
  have e3 : low Z 5 = Z - 4294967296 ^ 5 * (Z / 4294967296 ^ 5) := by have e := Int.emod_add_mul_ediv Z (4294967296 ^ 5); unfold low; omega
  refine low_eq (t := -(Z / 4294967296 ^ 5)) ?_
  rw [e3]; grind
/-- the number in the making, when i limbs of the quotient are settled -/
def dvT (ZA ZB Qv : Int) (i : Nat) : Int := low Qv i + (ZA - low Qv i * ZB)
theorem dv_q {ZA ZB Qv inv : Int} {i : Nat} (hQ : ZA = Qv * ZB) (hin : lim ZB 0 * inv % 4294967296 = 1) : lim (dvT ZA ZB Qv i) i * inv % 4294967296 = lim Qv i ∧ lim (dvT ZA ZB Qv i - lim Qv i * ZB * 4294967296 ^ i) i = 0 ∧ dvT ZA ZB Qv i - lim Qv i * ZB * 4294967296 ^ i + lim Qv i * 4294967296 ^ i = dvT ZA ZB Qv (i + 1) := by
  have hP := P_pos i
  have h1 := Int.emod_add_mul_ediv Qv (4294967296 ^ i)
  have hl0 : 0 ≤ low Qv i := Int.emod_nonneg _ (by omega)
  have hl1 : low Qv i < 4294967296 ^ i := Int.emod_lt_of_pos _ hP
  have hlow : low Qv i = Qv % 4294967296 ^ i := rfl
  have hlim : lim Qv i = Qv / 4294967296 ^ i % 4294967296 := rfl
  have hs := low_succ Qv i
  generalize hqe : Qv / 4294967296 ^ i = Qh at *
  rw [← hlow] at h1
  have eT : dvT ZA ZB Qv i = low Qv i + 4294967296 ^ i * (Qh * ZB) := by unfold dvT; rw [hQ]; grind
  have e0 : ∀ y : Int, (low Qv i + 4294967296 ^ i * y) / 4294967296 ^ i = y := fun y => by
    rw [Int.add_mul_ediv_left _ _ (by omega), Int.ediv_eq_zero_of_lt hl0 hl1, Int.zero_add]
  refine ⟨?_, ?_, ?_⟩
  · have hb : lim ZB 0 = ZB % 4294967296 := by unfold lim; simp
    rw [hb] at hin
    unfold lim; rw [eT, e0, hqe]
    rw [Int.mul_emod, Int.emod_emod, ← Int.mul_emod]
    obtain ⟨k, hk⟩ : ∃ k, ZB * inv = 1 + 4294967296 * k := by
      refine ⟨ZB * inv / 4294967296, ?_⟩
      have e := Int.emod_add_mul_ediv (ZB * inv) 4294967296
      rw [Int.mul_emod, Int.emod_emod, ← Int.mul_emod] at hin
      rw [hin] at e; omega
    rw [show Qh * ZB * inv = Qh + 4294967296 * (Qh * k) by rw [Int.mul_assoc, hk]; grind, Int.add_mul_emod_self_left]
  · have e4 := Int.emod_add_mul_ediv Qh 4294967296
    rw [← hlim] at e4
    have e5 : dvT ZA ZB Qv i - lim Qv i * ZB * 4294967296 ^ i = low Qv i + 4294967296 ^ i * (4294967296 * (Qh / 4294967296 * ZB)) := by
      rw [eT]
      generalize Qh / 4294967296 = q2 at *
      rw [← e4]; grind
    rw [e5]; unfold lim; rw [e0, Int.mul_emod_right]
  · unfold dvT; rw [hs]; grind
set_option maxRecDepth 100000 in
set_option maxHeartbeats 4000000 in
theorem c_W_divideByOdd (l : Launch) (D : va_G) (cs : Nat → ClassId) (ad : Nat → Nat → Nat) (z : Nat → Int) (a b : Nat) (Qv : Int) (ha : a < 121) (hb : b < 121) (hba : b ≠ a) (hQ : z a = Qv * z b) (hU : U160 Qv) (hod : z b % 2 = 1) : Ct (S := Unit) l D (tyL cs) y_W_divideByOdd b_W_divideByOdd 7 none (rm 2) [.ref (ad 0 a), .ref (ad 0 b)] (wZ ad cs z) (fun _ => True) (fun _ => none) (fun _ => wZ ad cs (up1 z a Qv)) := by
  refine Ct.introV (by decide) (Nat.le_of_ble_eq_true rfl) (fun _ => rfl) ?_
  intro p e s m below meth c A args Q H locs X hnm hw kr ls hl
  have X : CX D (tyL cs) R_W b_W_divideByOdd 7 p m c s args := X
  have hl : lv_has ls 7 [(0, .ref (ad 0 a)), (1, .ref (ad 0 b))] := hl
  have hl0 := lim_rng (z b) 0
  have hb0 : lim (z b) 0 = z b % 4294967296 := by unfold lim; simp
  have ho : lim (z b) 0 % 2 = 1 := by rw [hb0]; omega
  refine sy_aload_n X d_W_divideByOdd_0 hl 1 rfl ?_
  refine w_get X hw hb (tt_of k110 rfl) d_W_divideByOdd_1 ?_
  refine sy_iconst X d_W_divideByOdd_4 ?_
  refine w_ald X hw b 0 hb (by omega) (by omega) (lim (z b) 0) rfl d_W_divideByOdd_5 ?_
  refine call_Sj (Xs := []) (As := [.long (jI (lim (z b) 0))]) (rest := []) X lk_W_47 (c_W_inverseOfLimb l D cs (wZ ad cs z) (lim (z b) 0) hl0 ho) ⟨by decide, by decide⟩ hw rfl hl.1 (Nat.le_of_ble_eq_true rfl) d_W_divideByOdd_6 rfl rfl ⟨Nat.zero_le _, Nat.zero_le _⟩ (fun inv H locs hin hw => ?_)
  refine sy_lstore_n (lv1 := [(2, .long (jI inv)), (0, .ref (ad 0 a)), (1, .ref (ad 0 b))]) X d_W_divideByOdd_9 hl rfl (by decide) rfl (fun ls hl => ?_)
  refine sy_iconst X d_W_divideByOdd_10 ?_
  refine sy_istore (lv1 := [(4, .int (iI 0)), (2, .long (jI inv)), (0, .ref (ad 0 a)), (1, .ref (ad 0 b))]) X d_W_divideByOdd_11 hl (by decide) rfl (fun ls hl => ?_)
  have key : ∀ (n : Nat) (i : Nat) (H : Heap) (locs : List Loc) (ls : Array Slot), i ≤ 5 → 5 < i + n → HW D A s.heap (wZ ad cs (up1 z a (dvT (z a) (z b) Qv i))) H locs → lv_has ls 7 [(0, .ref (ad 0 a)), (1, .ref (ad 0 b)), (2, .long (jI inv)), (4, .int (iI ((i : Nat) : Int)))] → W p l e (rm 2) s m args below meth c H locs 0 0 Q (F0 m 13 ls []) := by
    intro n
    induction n with
    | zero =>
      intro i H locs ls h1 h2 hw hl
      exfalso; omega
    | succ n ih_key =>
      intro i H locs ls h1 h2 hw hl
      have hdv := dv_q (i := i) hQ hin.2.2
      have hql := lim_rng Qv i
      refine sy_iload X d_W_divideByOdd_13 hl 3 rfl ?_
      refine sy_iconst X d_W_divideByOdd_15 ?_
      refine sy_icmp_ge (tgt := 58) X d_W_divideByOdd_16 (by decide) ⟨by omega, by omega⟩ ⟨by omega, by omega⟩ (fun c1 => ?_) (fun c1 => ?_)
      · have hi : i = 5 := by omega
        have e5 : dvT (z a) (z b) Qv i = Qv := by rw [hi, dvT, low5 hU, hQ]; omega
        rw [e5] at hw
        exact kr () _ _ _ _ d_W_divideByOdd_58 hw trivial
      · refine sy_aload_n X d_W_divideByOdd_19 hl 0 rfl ?_
        refine w_get X hw ha (tt_of k110 rfl) d_W_divideByOdd_20 ?_
        refine sy_iload X d_W_divideByOdd_23 hl 3 rfl ?_
        refine w_ald X hw a i ha (by omega) (by omega) (lim (dvT (z a) (z b) Qv i) i) (by rw [up1_s]) d_W_divideByOdd_25 ?_
        refine sy_lload_n X d_W_divideByOdd_26 hl 2 rfl ?_
        refine sy_lmul X d_W_divideByOdd_27 ?_
        refine sy_ldc2 (z := 4294967295) X (tt_of k197 rfl) d_W_divideByOdd_28 (by decide) ?_
        refine sy_land X 32 4294967296 d_W_divideByOdd_31 (by decide) (by decide) (by decide) ?_
        rw [hdv.1]
        refine sy_lstore (lv1 := [(5, .long (jI (lim Qv i))), (0, .ref (ad 0 a)), (1, .ref (ad 0 b)), (2, .long (jI inv)), (4, .int (iI ((i : Nat) : Int)))]) X d_W_divideByOdd_32 hl (by decide) rfl (fun ls hl => ?_)
        refine sy_aload_n X d_W_divideByOdd_34 hl 1 rfl ?_
        refine sy_aload_n X d_W_divideByOdd_35 hl 2 rfl ?_
        refine sy_lload X d_W_divideByOdd_36 hl 0 rfl ?_
        refine sy_iload X d_W_divideByOdd_38 hl 4 rfl ?_
        refine call_Vv (Xs := []) (b := ad 0 a) (As := [.ref (ad 0 b), .long (jI (lim Qv i)), .int (iI ((i : Nat) : Int))]) (rest := []) X lk_W_51 (c_W_takeTimes l D cs ad (up1 z a (dvT (z a) (z b) Qv i)) a b (lim Qv i) i ha hb hba hql (by omega)) ⟨by decide, by decide⟩ (rcv_W ha) hw rfl hl.1 (Nat.le_of_ble_eq_true rfl) d_W_divideByOdd_40 rfl rfl ⟨Nat.zero_le _, Nat.zero_le _⟩ (fun _ H locs _ hw => ?_)
        rw [up1_s, up1_n _ hba, up1_up1] at hw
        refine sy_aload_n X d_W_divideByOdd_43 hl 1 rfl ?_
        refine w_get X hw ha (tt_of k110 rfl) d_W_divideByOdd_44 ?_
        refine sy_iload X d_W_divideByOdd_47 hl 4 rfl ?_
        refine sy_lload X d_W_divideByOdd_49 hl 0 rfl ?_
        refine w_ast X hw a i ha (by omega) (by omega) d_W_divideByOdd_51 (fun H locs hw => ?_)
        have hw : HW D A s.heap (wZ ad cs (up1 z a (dvT (z a) (z b) Qv (i + 1)))) H locs := by
          rw [← up1_up1 z a (dvT (z a) (z b) Qv i - lim Qv i * z b * 4294967296 ^ i) (dvT (z a) (z b) Qv (i + 1)), ← hdv.2.2]
          refine HW.fin (V := fun k => lim (up1 z a (dvT (z a) (z b) Qv i - lim Qv i * z b * 4294967296 ^ i) k)) rfl hw ?_
          rw [up1_s]; exact lim_set (by omega) hdv.2.1 hql
        refine sy_iinc (lv1 := [(4, .int (iI ((i + 1 : Nat) : Int))), (5, .long (jI (lim Qv i))), (0, .ref (ad 0 a)), (1, .ref (ad 0 b)), (2, .long (jI inv))]) X d_W_divideByOdd_52 hl 4 rfl (by omega) (by decide) rfl (fun ls hl => ?_)
        refine sy_goto (tgt := 13) X d_W_divideByOdd_55 (by decide) ?_
        exact ih_key (i + 1) H locs ls (by omega) (by omega) hw (lv_sub hl [2, 3, 4, 0] rfl)
  have e0 : z = up1 z a (dvT (z a) (z b) Qv 0) := by
    funext j; by_cases h : j = a
    · subst h; rw [up1_s, dvT, low_0]; simp
    · rw [up1_n _ h]
  have hw : HW D A s.heap (wZ ad cs (up1 z a (dvT (z a) (z b) Qv 0))) H locs := by rw [← e0]; exact hw
  exact key 6 0 H locs ls (by omega) (by omega) hw (lv_sub hl [2, 3, 1, 0] rfl)
