theorem to_step {VR cy VM q VY a d P : Int} (h : VR + cy * P = VM - q * VY) : (VR + (a - q * d + cy) % 65536 * P) + (a - q * d + cy) / 65536 * (P * 65536) = (VM + a * P) - q * (VY + d * P) := by
  have := add_step (c := a - q * d + cy) (d := a - q * d) (by omega) h
  rw [this]; grind
set_option maxRecDepth 100000 in
set_option maxHeartbeats 4000000 in
theorem c_M_takeOff (l : Launch) (D : va_G) (cs : Nat → ClassId) (ad : Nat → Nat) (M : Nat → Nat → Int) (N : Nat → Int) (y j u : Nat) (q : Int) (hy : y < 120) (hR : Rep M N) (hu : M 2 y = (u : Int)) (hj : j + u + 1 ≤ 224) (hd : Dg (fun k => M 4 (j + k)) (u + 1)) (hq0 : 0 ≤ q) (hq1 : q < 4294967296) (hle : q * ((N y).natAbs : Int) ≤ wd (M 4) j (u + 1)) : Ct (S := Nat → Int) l D (tyL cs) y_M_takeOff b_M_takeOff 10 none (rm 2) [.ref (ad 0), .int (iI ((y : Nat) : Int)), .int (iI ((j : Nat) : Int)), .long (jI q)] (wM ad cs M) (fun r => (∀ t, (t < j ∨ j + (u + 1) ≤ t) → r t = M 4 t) ∧ Dg (fun k => r (j + k)) (u + 1) ∧ wd r j (u + 1) = wd (M 4) j (u + 1) - q * ((N y).natAbs : Int)) (fun _ => none) (fun r => wM ad cs (upA M 4 r)) := by
  refine Ct.introV (by decide) (Nat.le_of_ble_eq_true rfl) (fun _ => rfl) ?_
  intro p e s m below meth c A args Q H locs X hnm hw kr ls hl
  have X : CX D (tyL cs) R_M b_M_takeOff 10 p m c s args := X
  have hl : lv_has ls 10 [(0, .ref (ad 0)), (1, .int (iI ((y : Nat) : Int))), (2, .int (iI ((j : Nat) : Int))), (3, .long (jI q))] := hl
  have hWf := hR.wf
  obtain ⟨uy, huy, hu1, hdy, hvy, -, -, -⟩ := (hR y hy).dig
  have eu : uy = u := by omega
  rw [eu] at hu1 hvy
  have hvy := hvy (u + 1) (by omega)
  have eM : M = upA M 4 (M 4) := (upA_self M 4).symm
  refine sy_lconst (z := 0) X d_M_takeOff_0 (by decide) ?_
  refine sy_lstore (lv1 := [(5, .long (jI 0)), (0, .ref (ad 0)), (1, .int (iI ((y : Nat) : Int))), (2, .int (iI ((j : Nat) : Int))), (3, .long (jI q))]) X d_M_takeOff_1 hl (by decide) rfl (fun ls hl => ?_)
  refine sy_iconst X d_M_takeOff_3 ?_
  refine sy_istore (lv1 := [(7, .int (iI 0)), (5, .long (jI 0)), (0, .ref (ad 0)), (1, .int (iI ((y : Nat) : Int))), (2, .int (iI ((j : Nat) : Int))), (3, .long (jI q))]) X d_M_takeOff_4 hl (by decide) rfl (fun ls hl => ?_)
  have key : ∀ (n : Nat) (k : Nat) (r : Nat → Int) (cy : Int) (H : Heap) (locs : List Loc) (ls : Array Slot), k ≤ u + 1 → u + 1 < k + n → (∀ t, (t < j ∨ j + k ≤ t) → r t = M 4 t) → Dg (fun i => r (j + i)) k → -q - 1 ≤ cy ∧ cy ≤ 0 → wd r j k + cy * 65536 ^ k = wd (M 4) j k - q * vl (dgt M y) k → HW D A s.heap (wM ad cs (upA M 4 r)) H locs → lv_has ls 10 [(0, .ref (ad 0)), (1, .int (iI ((y : Nat) : Int))), (2, .int (iI ((j : Nat) : Int))), (3, .long (jI q)), (5, .long (jI cy)), (7, .int (iI ((k : Nat) : Int)))] → W p l e (rm 2) s m args below meth c H locs 0 0 Q (F0 m 6 ls []) := by
    intro n
    induction n with
    | zero =>
      intro k r cy H locs ls h1 h2 h3 h4 h5 h6 hw hl
      exfalso; omega
    | succ n ih_key =>
      intro k r cy H locs ls h1 h2 h3 h4 h5 h6 hw hl
      refine sy_iload X d_M_takeOff_6 hl 5 rfl ?_
      refine sy_aload_n X d_M_takeOff_8 hl 0 rfl ?_
      refine m_get X hw 1 (by decide) rfl (tt_of k510 rfl) d_M_takeOff_9 ?_
      refine sy_iload_n X d_M_takeOff_12 hl 1 rfl ?_
      refine m_ald X hw 2 y (by decide) (by omega) (by simp only [szM]; omega) (u : Int) hu d_M_takeOff_13 ?_
      refine sy_icmp_gt (tgt := 72) X d_M_takeOff_14 (by decide) ⟨by omega, by omega⟩ ⟨by omega, by omega⟩ (fun c1 => ?_) (fun c1 => ?_)
      · have hk : k = u + 1 := by omega
        rw [hk, hvy] at h6
        rw [hk] at h3 h4
        have hlt : wd r j (u + 1) < 65536 ^ (u + 1) := vl_lt h4
        have h0 : 0 ≤ wd r j (u + 1) := vl_nonneg h4
        have hmx : wd (M 4) j (u + 1) < 65536 ^ (u + 1) := vl_lt hd
        have hqy : 0 ≤ q * ((N y).natAbs : Int) := Int.mul_nonneg hq0 (by omega)
        have hB := B_pos (u + 1)
        have hcy : cy = 0 := by
          rcases Int.lt_trichotomy cy 0 with h | h | h
          · have : cy * 65536 ^ (u + 1) ≤ (-1) * 65536 ^ (u + 1) := Int.mul_le_mul_of_nonneg_right (by omega) (Int.le_of_lt hB)
            omega
          · exact h
          · omega
        rw [hcy] at h6
        exact kr r _ _ _ _ d_M_takeOff_72 hw ⟨h3, h4, by omega⟩
      · have hby := hdy (k + 1) k (by omega)
        have hbr := hd k (by omega)
        have hrk : r (j + k) = M 4 (j + k) := h3 _ (by omega)
        have hbr : 0 ≤ r (j + k) ∧ r (j + k) < 65536 := by rw [hrk]; exact hbr
        have hpr : 0 ≤ q * dgt M y k ∧ q * dgt M y k ≤ q * 65535 := ⟨Int.mul_nonneg hq0 hby.1, Int.mul_le_mul_of_nonneg_left (by omega) hq0⟩
        refine sy_aload_n X d_M_takeOff_17 hl 0 rfl ?_
        refine m_get X hw 3 (by decide) rfl (tt_of k512 rfl) d_M_takeOff_18 ?_
        refine sy_iload_n X d_M_takeOff_21 hl 2 rfl ?_
        refine sy_iload X d_M_takeOff_22 hl 5 rfl ?_
        refine sy_iadd X d_M_takeOff_24 ?_
        refine m_ald X hw 4 (j + k) (by decide) (by omega) (by simp only [szM]; omega) (r (j + k)) rfl d_M_takeOff_25 ?_
        refine sy_i2l X d_M_takeOff_26 ⟨by omega, by omega⟩ ?_
        refine sy_lload_n X d_M_takeOff_27 hl 3 rfl ?_
        refine sy_aload_n X d_M_takeOff_28 hl 0 rfl ?_
        refine sy_iload_n X d_M_takeOff_29 hl 1 rfl ?_
        refine sy_iload X d_M_takeOff_30 hl 5 rfl ?_
        refine call_Vi (Xs := []) (b := ad 0) (As := [.int (iI ((y : Nat) : Int)), .int (iI ((k : Nat) : Int))]) (rest := [.long (jI q), .long (jI (r (j + k)))]) X lk_M_40 (c_M_digitOfR l D cs ad M r y k (by omega) (by omega) hWf) ⟨by decide, by decide⟩ rcv_M hw rfl hl.1 (Nat.le_of_ble_eq_true rfl) d_M_takeOff_32 rfl rfl ⟨Nat.zero_le _, Nat.zero_le _⟩ (fun _ H locs _ hw => ?_)
        refine sy_i2l X d_M_takeOff_35 ⟨by omega, by omega⟩ ?_
        refine sy_lmul X d_M_takeOff_36 ?_
        refine sy_lsub X d_M_takeOff_37 ?_
        refine sy_lload X d_M_takeOff_38 hl 4 rfl ?_
        refine sy_ladd X d_M_takeOff_40 ?_
        refine sy_lstore (lv1 := [(8, .long (jI (((r (j + k)) - (q * (dgt M y k))) + cy))), (0, .ref (ad 0)), (1, .int (iI ((y : Nat) : Int))), (2, .int (iI ((j : Nat) : Int))), (3, .long (jI q)), (5, .long (jI cy)), (7, .int (iI ((k : Nat) : Int)))]) X d_M_takeOff_41 hl (by decide) rfl (fun ls hl => ?_)
        refine sy_aload_n X d_M_takeOff_43 hl 1 rfl ?_
        refine m_get X hw 3 (by decide) rfl (tt_of k512 rfl) d_M_takeOff_44 ?_
        refine sy_iload_n X d_M_takeOff_47 hl 3 rfl ?_
        refine sy_iload X d_M_takeOff_48 hl 6 rfl ?_
        refine sy_iadd X d_M_takeOff_50 ?_
        refine sy_lload X d_M_takeOff_51 hl 0 rfl ?_
        refine sy_ldc2 (z := 65535) X (tt_of k500 rfl) d_M_takeOff_53 (by decide) ?_
        refine sy_land X 16 65536 d_M_takeOff_56 (by decide) (by decide) (by decide) ?_
        refine sy_l2i X d_M_takeOff_57 ?_
        refine m_ast X hw 4 (j + k) (by decide) (by omega) (by simp only [szM]; omega) d_M_takeOff_58 (fun H locs hw => ?_)
        rw [up2_upA] at hw
        obtain ⟨r1, er1⟩ : ∃ g, g = up1 r (j + k) ((((r (j + k)) - (q * (dgt M y k))) + cy) % 65536) := ⟨_, rfl⟩
        rw [← er1] at hw
        refine sy_lload X d_M_takeOff_59 hl 0 rfl ?_
        refine sy_bipush X d_M_takeOff_61 (by decide) ?_
        refine sy_lshr X 65536 d_M_takeOff_63 ⟨by omega, by omega⟩ (by omega) (by omega) (by decide) ?_
        refine sy_lstore (lv1 := [(5, .long (jI ((((r (j + k)) - (q * (dgt M y k))) + cy) / 65536))), (8, .long (jI (((r (j + k)) - (q * (dgt M y k))) + cy))), (0, .ref (ad 0)), (1, .int (iI ((y : Nat) : Int))), (2, .int (iI ((j : Nat) : Int))), (3, .long (jI q)), (7, .int (iI ((k : Nat) : Int)))]) X d_M_takeOff_64 hl (by decide) rfl (fun ls hl => ?_)
        have hA2 : ∀ t, (t < j ∨ j + (k + 1) ≤ t) → r1 t = M 4 t := by intro t ht; rw [er1, up1_n _ (by omega)]; exact h3 t (by omega)
        have ew : ∀ i, i < k → r1 (j + i) = r (j + i) := by intro i hi; rw [er1, up1_n _ (by omega)]
        have es : r1 (j + k) = (r (j + k) - q * dgt M y k + cy) % 65536 := by rw [er1, up1_s]
        have hD2 : Dg (fun i => r1 (j + i)) (k + 1) := by
          intro i hi
          by_cases e : i = k
          · subst e; simp only [es]; exact md0 _
          · simp only [ew i (by omega)]; exact h4 i (by omega)
        have hV2 : wd r1 j (k + 1) + (r (j + k) - q * dgt M y k + cy) / 65536 * 65536 ^ (k + 1) = wd (M 4) j (k + 1) - q * vl (dgt M y) (k + 1) := by
          rw [wd_succ, wd_succ, es, show wd r1 j k = wd r j k from vl_congr ew, B_succ, ← hrk]; simp only [vl]; exact to_step h6
        refine sy_iinc (lv1 := [(7, .int (iI ((k + 1 : Nat) : Int))), (5, .long (jI ((((r (j + k)) - (q * (dgt M y k))) + cy) / 65536))), (8, .long (jI (((r (j + k)) - (q * (dgt M y k))) + cy))), (0, .ref (ad 0)), (1, .int (iI ((y : Nat) : Int))), (2, .int (iI ((j : Nat) : Int))), (3, .long (jI q))]) X d_M_takeOff_66 hl 6 rfl (by omega) (by decide) rfl (fun ls hl => ?_)
        refine sy_goto (tgt := 6) X d_M_takeOff_69 (by decide) ?_
        exact ih_key (k + 1) r1 _ H locs ls (by omega) (by omega) hA2 hD2 ⟨by omega, by omega⟩ hV2 hw (lv_sub hl [3, 4, 5, 6, 1, 0] rfl)
  rw [eM] at hw
  exact key (u + 2) 0 (M 4) 0 H locs ls (by omega) (by omega) (fun _ _ => rfl) (fun i hi => by omega) ⟨by omega, by omega⟩ (by simp [wd, vl]) hw (lv_sub hl [2, 3, 4, 5, 1, 0] rfl)
set_option maxRecDepth 100000 in
set_option maxHeartbeats 4000000 in
theorem c_M_fits (l : Launch) (D : va_G) (cs : Nat → ClassId) (ad : Nat → Nat) (M : Nat → Nat → Int) (N : Nat → Int) (y j u : Nat) (hy : y < 120) (hR : Rep M N) (hu : M 2 y = (u : Int)) (hj : j + u + 1 ≤ 224) (hd : Dg (fun k => M 4 (j + k)) (u + 1)) : Ct (S := Unit) l D (tyL cs) y_M_fits b_M_fits 6 (some .boolean) (rm 2) [.ref (ad 0), .int (iI ((y : Nat) : Int)), .int (iI ((j : Nat) : Int))] (wM ad cs M) (fun _ => True) (fun _ => some (.int (iI (if ((N y).natAbs : Int) ≤ wd (M 4) j (u + 1) then 1 else 0)))) (fun _ => wM ad cs M) := by
  refine Ct.introZ (by decide) (Nat.le_of_ble_eq_true rfl) ?_
  intro p e s m below meth c A args Q H locs X hnm hw kr ls hl
  have X : CX D (tyL cs) R_M b_M_fits 6 p m c s args := X
  have hl : lv_has ls 6 [(0, .ref (ad 0)), (1, .int (iI ((y : Nat) : Int))), (2, .int (iI ((j : Nat) : Int)))] := hl
  have hWf := hR.wf
  obtain ⟨uy, huy, hu1, hdy, hvy, hlt, -, -⟩ := (hR y hy).dig
  have eu : uy = u := by omega
  rw [eu] at hu1 hvy hlt
  have hvy := hvy u (by omega)
  have htop : 0 ≤ M 4 (j + u) ∧ M 4 (j + u) < 65536 := hd u (by omega)
  have hw0 : 0 ≤ wd (M 4) j u := vl_nonneg (hd.le (Nat.le_succ u))
  refine sy_aload_n X d_M_fits_0 hl 0 rfl ?_
  refine m_get X hw 1 (by decide) rfl (tt_of k510 rfl) d_M_fits_1 ?_
  refine sy_iload_n X d_M_fits_4 hl 1 rfl ?_
  refine m_ald X hw 2 y (by decide) (by omega) (by simp only [szM]; omega) (u : Int) hu d_M_fits_5 ?_
  refine sy_istore_n (lv1 := [(3, .int (iI (u : Int))), (0, .ref (ad 0)), (1, .int (iI ((y : Nat) : Int))), (2, .int (iI ((j : Nat) : Int)))]) X d_M_fits_6 hl rfl (by decide) rfl (fun ls hl => ?_)
  refine sy_aload_n X d_M_fits_7 hl 1 rfl ?_
  refine m_get X hw 3 (by decide) rfl (tt_of k512 rfl) d_M_fits_8 ?_
  refine sy_iload_n X d_M_fits_11 hl 3 rfl ?_
  refine sy_iload_n X d_M_fits_12 hl 0 rfl ?_
  refine sy_iadd X d_M_fits_13 ?_
  refine m_ald X hw 4 (j + u) (by decide) (by omega) (by simp only [szM]; omega) (M 4 (j + u)) rfl d_M_fits_14 ?_
  refine sy_if_le (tgt := 20) X d_M_fits_15 (by decide) ⟨by omega, by omega⟩ (fun c1 => ?_) (fun c1 => ?_)
  · refine sy_iload_n X d_M_fits_20 hl 0 rfl ?_
    refine sy_iconst X d_M_fits_21 ?_
    refine sy_isub X d_M_fits_22 ?_
    refine sy_istore (lv1 := [(4, .int (iI ((u : Int) - 1))), (3, .int (iI (u : Int))), (0, .ref (ad 0)), (1, .int (iI ((y : Nat) : Int))), (2, .int (iI ((j : Nat) : Int)))]) X d_M_fits_23 hl (by decide) rfl (fun ls hl => ?_)
    have key : ∀ (n : Nat) (g0 : Nat) (H : Heap) (locs : List Loc) (ls : Array Slot), g0 ≤ u → g0 < n → wd (M 4) j g0 - vl (dgt M y) g0 = wd (M 4) j (u + 1) - ((N y).natAbs : Int) → HW D A s.heap (wM ad cs M) H locs → lv_has ls 6 [(0, .ref (ad 0)), (1, .int (iI ((y : Nat) : Int))), (2, .int (iI ((j : Nat) : Int))), (3, .int (iI (u : Int))), (4, .int (iI ((g0 : Int) - 1)))] → W p l e (rm 2) s m args below meth c H locs 0 0 Q (F0 m 25 ls []) := by
      intro n
      induction n with
      | zero =>
        intro g0 H locs ls h1 h2 h3 hw hl
        exfalso; omega
      | succ n ih_key =>
        intro g0 H locs ls h1 h2 h3 hw hl
        refine sy_iload X d_M_fits_25 hl 4 rfl ?_
        refine sy_if_lt (tgt := 71) X d_M_fits_27 (by decide) ⟨by omega, by omega⟩ (fun c2 => ?_) (fun c2 => ?_)
        · refine sy_iconst X d_M_fits_71 ?_
          exact kr () _ _ _ _ _ d_M_fits_72 hw trivial (by rw [if_pos (by have h := h3; rw [show g0 = 0 by omega] at h; have e1 : wd (M 4) j 0 = 0 := rfl; have e2 : vl (dgt M y) 0 = 0 := rfl; omega)]) rfl
        · rw [show ((g0 : Int) - 1) = ((g0 - 1 : Nat) : Int) by omega] at hl
          have hbx := hd (g0 - 1) (by omega)
          simp only at hbx
          have hby := hdy g0 (g0 - 1) (by omega)
          refine sy_aload_n X d_M_fits_30 hl 0 rfl ?_
          refine m_get X hw 3 (by decide) rfl (tt_of k512 rfl) d_M_fits_31 ?_
          refine sy_iload_n X d_M_fits_34 hl 2 rfl ?_
          refine sy_iload X d_M_fits_35 hl 4 rfl ?_
          refine sy_iadd X d_M_fits_37 ?_
          refine m_ald X hw 4 (j + (g0 - 1)) (by decide) (by omega) (by simp only [szM]; omega) (M 4 (j + (g0 - 1))) rfl d_M_fits_38 ?_
          refine sy_aload_n X d_M_fits_39 hl 0 rfl ?_
          refine sy_iload_n X d_M_fits_40 hl 1 rfl ?_
          refine sy_iload X d_M_fits_41 hl 4 rfl ?_
          refine call_Vi (Xs := []) (b := ad 0) (As := [.int (iI ((y : Nat) : Int)), .int (iI ((g0 - 1 : Nat) : Int))]) (rest := [.int (iI (M 4 (j + (g0 - 1))))]) X lk_M_40 (c_M_digitOf l D cs ad M y (g0 - 1) (by omega) (by omega) hWf) ⟨by decide, by decide⟩ rcv_M hw rfl hl.1 (Nat.le_of_ble_eq_true rfl) d_M_fits_43 rfl rfl ⟨Nat.zero_le _, Nat.zero_le _⟩ (fun _ H locs _ hw => ?_)
          refine sy_isub X d_M_fits_46 ?_
          refine sy_istore (lv1 := [(5, .int (iI ((M 4 (j + (g0 - 1))) - (dgt M y (g0 - 1))))), (0, .ref (ad 0)), (1, .int (iI ((y : Nat) : Int))), (2, .int (iI ((j : Nat) : Int))), (3, .int (iI (u : Int))), (4, .int (iI ((g0 - 1 : Nat) : Int)))]) X d_M_fits_47 hl (by decide) rfl (fun ls hl => ?_)
          refine sy_iload X d_M_fits_49 hl 0 rfl ?_
          refine sy_if_eq (tgt := 65) X d_M_fits_51 (by decide) ⟨by omega, by omega⟩ (fun c3 => ?_) (fun c3 => ?_)
          · have h31 : wd (M 4) j (g0 - 1) - vl (dgt M y) (g0 - 1) = wd (M 4) j (u + 1) - ((N y).natAbs : Int) := by
              rw [← h3]
              obtain ⟨t, rfl⟩ : ∃ t, g0 = t + 1 := ⟨g0 - 1, by omega⟩
              simp only [Nat.add_sub_cancel] at *
              rw [wd_succ]; simp only [vl]
              rw [show M 4 (j + t) = dgt M y t by omega]; omega
            refine sy_iinc (lv1 := [(4, .int (iI (((g0 - 1 : Nat) : Int) + (-1)))), (5, .int (iI ((M 4 (j + (g0 - 1))) - (dgt M y (g0 - 1))))), (0, .ref (ad 0)), (1, .int (iI ((y : Nat) : Int))), (2, .int (iI ((j : Nat) : Int))), (3, .int (iI (u : Int)))]) X d_M_fits_65 hl 5 rfl (by omega) (by decide) rfl (fun ls hl => ?_)
            refine sy_goto (tgt := 25) X d_M_fits_68 (by decide) ?_
            rw [show (((g0 - 1 : Nat) : Int) + (-1)) = (((g0 - 1 : Nat) : Int) - 1) by omega] at hl
            exact ih_key (g0 - 1) H locs ls (by omega) (by omega) h31 hw (lv_sub hl [2, 3, 4, 5, 0] rfl)
          · have hcd := cmp_dig (f := fun k => M 4 (j + k)) (g := dgt M y) (j := g0 - 1) (hd.le (by omega)) (hdy _)
            have ee : g0 - 1 + 1 = g0 := by omega
            rw [ee] at hcd
            have km4 : ∀ (H : Heap) (locs : List Loc), HW D A s.heap (wM ad cs M) H locs → W p l e (rm 2) s m args below meth c H locs 0 0 Q (F0 m 64 ls [.int (iI (if ((N y).natAbs : Int) ≤ wd (M 4) j (u + 1) then 1 else 0))]) := by
              intro H locs hw
              exact kr () _ _ _ _ _ d_M_fits_64 hw trivial rfl (by split <;> rfl)
            refine sy_iload X d_M_fits_54 hl 0 rfl ?_
            refine sy_if_le (tgt := 63) X d_M_fits_56 (by decide) ⟨by omega, by omega⟩ (fun c5 => ?_) (fun c5 => ?_)
            · refine sy_iconst X d_M_fits_63 ?_
              exact W_topi (by first | (rw [if_pos (by have := hcd.2 (by omega); unfold wd at h3 ⊢; omega)]) | (rw [if_neg (by have := hcd.1 (by omega); unfold wd at h3 ⊢; omega)])) (km4 H locs hw)
            · refine sy_iconst X d_M_fits_59 ?_
              refine sy_goto (tgt := 64) X d_M_fits_60 (by decide) ?_
              exact W_topi (by first | (rw [if_pos (by have := hcd.2 (by omega); unfold wd at h3 ⊢; omega)]) | (rw [if_neg (by have := hcd.1 (by omega); unfold wd at h3 ⊢; omega)])) (km4 H locs hw)
    exact key (u + 1) u H locs ls (by omega) (by omega) (by rw [hvy, wd_succ, show M 4 (j + u) = 0 by omega]; omega) hw (lv_sub hl [2, 3, 4, 1, 0] rfl)
  · refine sy_iconst X d_M_fits_18 ?_
    exact kr () _ _ _ _ _ d_M_fits_19 hw trivial (by rw [if_pos (by rw [wd_succ]; have : 1 * 65536 ^ u ≤ M 4 (j + u) * 65536 ^ u := Int.mul_le_mul_of_nonneg_right (by omega) (Int.le_of_lt (B_pos u)); omega)]) rfl
