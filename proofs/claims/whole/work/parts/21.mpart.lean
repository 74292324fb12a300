theorem dm_uniq {X Y Q R : Int} (h : X = Q * Y + R) (h0 : 0 ≤ R) (h1 : R < Y) : X % Y = R ∧ X / Y = Q := by
  have hY : 0 < Y := by omega
  have e1 : X % Y = R := by
    rw [h, Int.add_comm, Int.add_mul_emod_self_right, Int.emod_eq_of_lt h0 h1]
  refine ⟨e1, ?_⟩
  rw [h, Int.add_comm, Int.add_mul_ediv_right _ _ (by omega), Int.ediv_eq_zero_of_lt h0 h1]; omega
theorem used_pos {M : Nat → Nat → Int} {z : Nat} {n : Int} (h : Rp M z n) (hn : n ≠ 0) : ∃ u : Nat, M 2 z = (u : Int) ∧ 1 ≤ u ∧ u ≤ 110 ∧ (n.natAbs : Int) < 65536 ^ u := by
  obtain ⟨u, h1, h2, -, -, h5, h6, -⟩ := h.dig
  refine ⟨u, h1, ?_, h2, h5⟩
  rcases h6 with h | h
  · subst h; simp at h5; omega
  · rcases Nat.eq_zero_or_pos u with e | e
    · subst e; simp at h5; omega
    · exact e
set_option maxRecDepth 100000 in
set_option maxHeartbeats 4000000 in
theorem c_M_remainder (l : Launch) (D : va_G) (cs : Nat → ClassId) (ad : Nat → Nat) (M : Nat → Nat → Int) (N : Nat → Int) (z x y : Nat) (hz : z < 120) (hx : x < 120) (hy : y < 120) (hR : Rep M N) (hy0 : N y ≠ 0) (hle : M 2 y ≤ M 2 x) : Ct (S := Nat → Nat → Int) l D (tyL cs) y_M_remainder b_M_remainder 4 none (rm 4) [.ref (ad 0), .int (iI ((z : Nat) : Int)), .int (iI ((x : Nat) : Int)), .int (iI ((y : Nat) : Int))] (wM ad cs M) (fun M1 => Rep M1 (up1 N z (((N x).natAbs : Int) % ((N y).natAbs : Int))) ∧ Sm M M1) (fun _ => none) (fun M1 => wM ad cs M1) := by
  refine Ct.introV (by decide) (Nat.le_of_ble_eq_true rfl) (fun _ => rfl) ?_
  intro p e s m below meth c A args Q H locs X hnm hw kr ls hl
  have X : CX D (tyL cs) R_M b_M_remainder 4 p m c s args := X
  have hl : lv_has ls 4 [(0, .ref (ad 0)), (1, .int (iI ((z : Nat) : Int))), (2, .int (iI ((x : Nat) : Int))), (3, .int (iI ((y : Nat) : Int)))] := hl
  obtain ⟨uy, huy, huy1, huy2, hlty⟩ := used_pos (hR y hy) hy0
  obtain ⟨ux, hux, hux2, -, -, -, -, -⟩ := (hR x hx).dig
  refine sy_aload_n X d_M_remainder_0 hl 0 rfl ?_
  refine sy_iload_n X d_M_remainder_1 hl 2 rfl ?_
  refine sy_iload_n X d_M_remainder_2 hl 3 rfl ?_
  refine call_Vv (Xs := []) (b := ad 0) (As := [.int (iI ((x : Nat) : Int)), .int (iI ((y : Nat) : Int))]) (rest := []) X lk_M_74 (c_M_split l D cs ad M N x y ux uy hx hy hR hux huy huy1) ⟨by decide, by decide⟩ rcv_M hw rfl hl.1 (Nat.le_of_ble_eq_true rfl) d_M_remainder_3 rfl rfl ⟨Nat.zero_le _, Nat.zero_le _⟩ (fun u H locs hp hw => ?_)
  obtain ⟨r, q⟩ := u
  obtain ⟨hDr, hDq, hXe, hRlt⟩ := hp
  simp only at hDr hDq hXe hRlt hw
  refine sy_aload_n X d_M_remainder_6 hl 0 rfl ?_
  refine sy_iload_n X d_M_remainder_7 hl 1 rfl ?_
  refine sy_aload_n X d_M_remainder_8 hl 0 rfl ?_
  refine m_get X hw 1 (by decide) rfl (tt_of k510 rfl) d_M_remainder_9 ?_
  refine sy_iload_n X d_M_remainder_12 hl 3 rfl ?_
  refine m_ald X hw 2 y (by decide) (by omega) (by simp only [szM]; omega) (uy : Int) huy d_M_remainder_13 ?_
  refine sy_iconst X d_M_remainder_14 ?_
  have hV : vl r uy = ((N x).natAbs : Int) % ((N y).natAbs : Int) := by
    rw [(dm_uniq hXe (vl_nonneg hDr) hRlt).1, vl_zero (u := uy) (n := ux + 3) (by omega) (fun k h1 h2 => hi_zero hDr (Int.lt_trans hRlt hlty) k h1 h2)]
  have hB : vl r uy < 65536 ^ 110 := Int.lt_of_lt_of_le (vl_lt (hDr.le (by omega))) (B_le huy2)
  refine call_Vv (Xs := []) (b := ad 0) (As := [.int (iI ((z : Nat) : Int)), .int (iI (uy : Int)), .int (iI 1)]) (rest := []) X lk_M_45 (c_M_store l D cs ad (W2 M r q) N z uy 1 (by omega) (by omega) ⟨by decide, by decide⟩ hR (by exact hDr.le (by omega)) (by exact hB) (Or.inl rfl)) ⟨by decide, by decide⟩ rcv_M hw rfl hl.1 (Nat.le_of_ble_eq_true rfl) d_M_remainder_15 rfl rfl ⟨Nat.zero_le _, Nat.zero_le _⟩ (fun M1 H locs hp hw => ?_)
  have e1 : 1 * vl (W2 M r q 4) uy = ((N x).natAbs : Int) % ((N y).natAbs : Int) := by rw [Int.one_mul]; exact hV
  rw [e1] at hp
  exact kr _ _ _ _ _ d_M_remainder_18 hw ⟨hp.1, hp.2.1⟩
set_option maxRecDepth 100000 in
set_option maxHeartbeats 4000000 in
theorem c_M_part (l : Launch) (D : va_G) (cs : Nat → ClassId) (ad : Nat → Nat) (M : Nat → Nat → Int) (N : Nat → Int) (z x y : Nat) (hz : z < 120) (hx : x < 120) (hy : y < 120) (hR : Rep M N) (hy0 : N y ≠ 0) : Ct (S := Nat → Nat → Int) l D (tyL cs) y_M_part b_M_part 7 none (rm 4) [.ref (ad 0), .int (iI ((z : Nat) : Int)), .int (iI ((x : Nat) : Int)), .int (iI ((y : Nat) : Int))] (wM ad cs M) (fun M1 => Rep M1 (up1 N z ((N x).sign * (N y).sign * (((N x).natAbs : Int) / ((N y).natAbs : Int)))) ∧ Sm M M1) (fun _ => none) (fun M1 => wM ad cs M1) := by
  refine Ct.introV (by decide) (Nat.le_of_ble_eq_true rfl) (fun _ => rfl) ?_
  intro p e s m below meth c A args Q H locs X hnm hw kr ls hl
  have X : CX D (tyL cs) R_M b_M_part 7 p m c s args := X
  have hl : lv_has ls 7 [(0, .ref (ad 0)), (1, .int (iI ((z : Nat) : Int))), (2, .int (iI ((x : Nat) : Int))), (3, .int (iI ((y : Nat) : Int)))] := hl
  obtain ⟨uy, huy, huy1, huy2, hlty⟩ := used_pos (hR y hy) hy0
  obtain ⟨ux, hux, hux2, -, -, hltx, -, hsx⟩ := (hR x hx).dig
  obtain ⟨_, -, -, -, -, -, -, hsy⟩ := (hR y hy).dig
  have hsgx := sgnR (N x)
  have hsgy := sgnR (N y)
  have hsm : -1 ≤ (N x).sign * (N y).sign ∧ (N x).sign * (N y).sign ≤ 1 := by rw [← Int.sign_mul]; exact sgnR _
  refine sy_aload_n X d_M_part_0 hl 0 rfl ?_
  refine sy_iload_n X d_M_part_1 hl 2 rfl ?_
  refine sy_iload_n X d_M_part_2 hl 3 rfl ?_
  refine call_Vv (Xs := []) (b := ad 0) (As := [.int (iI ((x : Nat) : Int)), .int (iI ((y : Nat) : Int))]) (rest := []) X lk_M_74 (c_M_split l D cs ad M N x y ux uy hx hy hR hux huy huy1) ⟨by decide, by decide⟩ rcv_M hw rfl hl.1 (Nat.le_of_ble_eq_true rfl) d_M_part_3 rfl rfl ⟨Nat.zero_le _, Nat.zero_le _⟩ (fun u H locs hp hw => ?_)
  obtain ⟨r, q⟩ := u
  obtain ⟨hDr, hDq, hXe, hRlt⟩ := hp
  simp only at hDr hDq hXe hRlt hw
  refine sy_aload_n X d_M_part_6 hl 0 rfl ?_
  refine m_get X hw 1 (by decide) rfl (tt_of k510 rfl) d_M_part_7 ?_
  refine sy_iload_n X d_M_part_10 hl 2 rfl ?_
  refine m_ald X hw 2 x (by decide) (by omega) (by simp only [szM]; omega) (ux : Int) hux d_M_part_11 ?_
  refine sy_istore (lv1 := [(4, .int (iI (ux : Int))), (0, .ref (ad 0)), (1, .int (iI ((z : Nat) : Int))), (2, .int (iI ((x : Nat) : Int))), (3, .int (iI ((y : Nat) : Int)))]) X d_M_part_12 hl (by decide) rfl (fun ls hl => ?_)
  refine sy_aload_n X d_M_part_14 hl 1 rfl ?_
  refine m_get X hw 2 (by decide) rfl (tt_of k511 rfl) d_M_part_15 ?_
  refine sy_iload_n X d_M_part_18 hl 3 rfl ?_
  refine m_ald X hw 3 x (by decide) (by omega) (by simp only [szM]; omega) ((N x).sign) hsx d_M_part_19 ?_
  refine sy_aload_n X d_M_part_20 hl 1 rfl ?_
  refine m_get X hw 2 (by decide) rfl (tt_of k511 rfl) d_M_part_21 ?_
  refine sy_iload_n X d_M_part_24 hl 4 rfl ?_
  refine m_ald X hw 3 y (by decide) (by omega) (by simp only [szM]; omega) ((N y).sign) hsy d_M_part_25 ?_
  refine sy_imul X d_M_part_26 ?_
  refine sy_istore (lv1 := [(5, .int (iI (((N x).sign) * ((N y).sign)))), (4, .int (iI (ux : Int))), (0, .ref (ad 0)), (1, .int (iI ((z : Nat) : Int))), (2, .int (iI ((x : Nat) : Int))), (3, .int (iI ((y : Nat) : Int)))]) X d_M_part_27 hl (by decide) rfl (fun ls hl => ?_)
  refine sy_iconst X d_M_part_29 ?_
  refine sy_istore (lv1 := [(6, .int (iI 0)), (5, .int (iI (((N x).sign) * ((N y).sign)))), (4, .int (iI (ux : Int))), (0, .ref (ad 0)), (1, .int (iI ((z : Nat) : Int))), (2, .int (iI ((x : Nat) : Int))), (3, .int (iI ((y : Nat) : Int)))]) X d_M_part_30 hl (by decide) rfl (fun ls hl => ?_)
  have key : ∀ (n : Nat) (k : Nat) (r1 : Nat → Int) (H : Heap) (locs : List Loc) (ls : Array Slot), k ≤ ux → ux < k + n → (∀ t, t < k → r1 t = q t) → HW D A s.heap (wM ad cs (W2 M r1 q)) H locs → lv_has ls 7 [(0, .ref (ad 0)), (1, .int (iI ((z : Nat) : Int))), (2, .int (iI ((x : Nat) : Int))), (3, .int (iI ((y : Nat) : Int))), (4, .int (iI (ux : Int))), (5, .int (iI ((N x).sign * (N y).sign))), (6, .int (iI ((k : Nat) : Int)))] → W p l e (rm 4) s m args below meth c H locs 0 0 Q (F0 m 32 ls []) := by
    intro n
    induction n with
    | zero =>
      intro k r1 H locs ls h1 h2 h3 hw hl
      exfalso; omega
    | succ n ih_key =>
      intro k r1 H locs ls h1 h2 h3 hw hl
      refine sy_iload X d_M_part_32 hl 6 rfl ?_
      refine sy_iload X d_M_part_34 hl 4 rfl ?_
      refine sy_icmp_ge (tgt := 59) X d_M_part_36 (by decide) ⟨by omega, by omega⟩ ⟨by omega, by omega⟩ (fun c1 => ?_) (fun c1 => ?_)
      · have hk : k = ux := by omega
        rw [hk] at h3
        have hQ0 := vl_nonneg hDq
        have hdm := dm_uniq hXe (vl_nonneg hDr) hRlt
        have hY1 : (1 : Int) ≤ ((N y).natAbs : Int) := by omega
        have hQX : vl q (ux + 3) ≤ ((N x).natAbs : Int) := by
          have := Int.mul_le_mul_of_nonneg_left hY1 hQ0
          have := vl_nonneg hDr
          omega
        have hV : vl r1 ux = ((N x).natAbs : Int) / ((N y).natAbs : Int) := by
          rw [hdm.2, vl_congr h3, vl_zero (u := ux) (n := ux + 3) (by omega) (fun k h1 h2 => hi_zero hDq (Int.lt_of_le_of_lt hQX hltx) k h1 h2)]
        have hD1 : Dg r1 ux := fun t ht => by rw [h3 t ht]; exact hDq t (by omega)
        have hB : vl r1 ux < 65536 ^ 110 := Int.lt_of_lt_of_le (vl_lt hD1) (B_le hux2)
        have hS : (N x).sign * (N y).sign = 1 ∨ (N x).sign * (N y).sign = -1 ∨ vl r1 ux = 0 := by
          rcases mul_sgn (N x) (N y) with h | h | h
          · exact Or.inl h
          · exact Or.inr (Or.inl h)
          · right; right; rw [hV]
            have hx0 : ((N x).natAbs : Int) = 0 := by rcases Int.mul_eq_zero.mp h with g | g; exact g; omega
            rw [hx0]; simp
        refine sy_aload_n X d_M_part_59 hl 0 rfl ?_
        refine sy_iload_n X d_M_part_60 hl 1 rfl ?_
        refine sy_iload X d_M_part_61 hl 4 rfl ?_
        refine sy_iload X d_M_part_63 hl 5 rfl ?_
        refine call_Vv (Xs := []) (b := ad 0) (As := [.int (iI ((z : Nat) : Int)), .int (iI (ux : Int)), .int (iI ((N x).sign * (N y).sign))]) (rest := []) X lk_M_45 (c_M_store l D cs ad (W2 M r1 q) N z ux ((N x).sign * (N y).sign) (by omega) (by omega) ⟨by omega, by omega⟩ hR (by exact hD1) (by exact hB) hS) ⟨by decide, by decide⟩ rcv_M hw rfl hl.1 (Nat.le_of_ble_eq_true rfl) d_M_part_65 rfl rfl ⟨Nat.zero_le _, Nat.zero_le _⟩ (fun M1 H locs hp hw => ?_)
        have e1 : (N x).sign * (N y).sign * vl (W2 M r1 q 4) ux = (N x).sign * (N y).sign * (((N x).natAbs : Int) / ((N y).natAbs : Int)) := by rw [← hV]; rfl
        rw [e1] at hp
        exact kr _ _ _ _ _ d_M_part_68 hw ⟨hp.1, hp.2.1⟩
      · refine sy_aload_n X d_M_part_39 hl 0 rfl ?_
        refine m_get X hw 3 (by decide) rfl (tt_of k512 rfl) d_M_part_40 ?_
        refine sy_iload X d_M_part_43 hl 6 rfl ?_
        refine sy_aload_n X d_M_part_45 hl 0 rfl ?_
        refine m_get X hw 4 (by decide) rfl (tt_of k513 rfl) d_M_part_46 ?_
        refine sy_iload X d_M_part_49 hl 6 rfl ?_
        refine m_ald X hw 5 k (by decide) (by omega) (by simp only [szM]; omega) (q k) rfl d_M_part_51 ?_
        refine m_ast X hw 4 k (by decide) (by omega) (by simp only [szM]; omega) d_M_part_52 (fun H locs hw => ?_)
        rw [W2_4] at hw
        obtain ⟨r2, er2⟩ : ∃ g, g = up1 r1 k (q k) := ⟨_, rfl⟩
        rw [← er2] at hw
        refine sy_iinc (lv1 := [(6, .int (iI ((k + 1 : Nat) : Int))), (0, .ref (ad 0)), (1, .int (iI ((z : Nat) : Int))), (2, .int (iI ((x : Nat) : Int))), (3, .int (iI ((y : Nat) : Int))), (4, .int (iI (ux : Int))), (5, .int (iI ((N x).sign * (N y).sign)))]) X d_M_part_53 hl 6 rfl (by omega) (by decide) rfl (fun ls hl => ?_)
        refine sy_goto (tgt := 32) X d_M_part_56 (by decide) ?_
        exact ih_key (k + 1) r2 H locs ls (by omega) (by omega) (by rw [er2]; exact eq_up h3 rfl) hw (lv_sub hl [1, 2, 3, 4, 5, 6, 0] rfl)
  exact key (ux + 1) 0 r H locs ls (by omega) (by omega) (fun t ht => by omega) hw (lv_sub hl [3, 4, 5, 6, 2, 1, 0] rfl)
