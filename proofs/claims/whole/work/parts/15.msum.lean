theorem c_M_digitOfR (l : Launch) (D : va_G) (cs : Nat → ClassId) (ad : Nat → Nat) (M : Nat → Nat → Int) (r : Nat → Int) (x k : Nat) (hx : x < 120) (hk : k < 2147483648) (hW : Wf M) : Ct (S := Unit) l D (tyL cs) y_M_digitOf b_M_digitOf 3 (some .int) (rm 1) [.ref (ad 0), .int (iI ((x : Nat) : Int)), .int (iI ((k : Nat) : Int))] (wM ad cs (upA M 4 r)) (fun _ => True) (fun _ => some (.int (iI (dgt M x k)))) (fun _ => wM ad cs (upA M 4 r)) := c_M_digitOf l D cs ad (upA M 4 r) x k hx hk hW
set_option maxRecDepth 100000 in
set_option maxHeartbeats 4000000 in
theorem c_M_against (l : Launch) (D : va_G) (cs : Nat → ClassId) (ad : Nat → Nat) (M : Nat → Nat → Int) (N : Nat → Int) (x y : Nat) (hx : x < 120) (hy : y < 120) (hR : Rep M N) : Ct (S := Unit) l D (tyL cs) y_M_against b_M_against 6 (some .int) (rm 2) [.ref (ad 0), .int (iI ((x : Nat) : Int)), .int (iI ((y : Nat) : Int))] (wM ad cs M) (fun _ => True) (fun _ => some (.int (iI (((N x).natAbs : Int) - (N y).natAbs).sign))) (fun _ => wM ad cs M) := by
  refine Ct.introI (by decide) (Nat.le_of_ble_eq_true rfl) ?_
  intro p e s m below meth c A args Q H locs X hnm hw kr ls hl
  have X : CX D (tyL cs) R_M b_M_against 6 p m c s args := X
  have hl : lv_has ls 6 [(0, .ref (ad 0)), (1, .int (iI ((x : Nat) : Int))), (2, .int (iI ((y : Nat) : Int)))] := hl
  have hWf := hR.wf
  obtain ⟨ux, hux, hux1, hdx, hvx, -, -, -⟩ := (hR x hx).dig
  obtain ⟨uy, huy, huy1, hdy, hvy, -, -, -⟩ := (hR y hy).dig
  obtain ⟨q, hq⟩ : ∃ q, q = max ux uy := ⟨_, rfl⟩
  have hvx := hvx q (by omega)
  have hvy := hvy q (by omega)
  have km1 : ∀ (H : Heap) (locs : List Loc), HW D A s.heap (wM ad cs M) H locs → W p l e (rm 2) s m args below meth c H locs 0 0 Q (F0 m 30 ls [.int (iI (q : Int))]) := by
    intro H locs hw
    refine sy_istore_n (lv1 := [(3, .int (iI (q : Int))), (0, .ref (ad 0)), (1, .int (iI ((x : Nat) : Int))), (2, .int (iI ((y : Nat) : Int)))]) X d_M_against_30 hl rfl (by decide) rfl (fun ls hl => ?_)
    refine sy_iload_n X d_M_against_31 hl 0 rfl ?_
    refine sy_iconst X d_M_against_32 ?_
    refine sy_isub X d_M_against_33 ?_
    refine sy_istore (lv1 := [(4, .int (iI ((q : Int) - 1))), (3, .int (iI (q : Int))), (0, .ref (ad 0)), (1, .int (iI ((x : Nat) : Int))), (2, .int (iI ((y : Nat) : Int)))]) X d_M_against_34 hl (by decide) rfl (fun ls hl => ?_)
    have key : ∀ (n : Nat) (j : Nat) (H : Heap) (locs : List Loc) (ls : Array Slot), j ≤ q → j < n → vl (dgt M x) j - vl (dgt M y) j = ((N x).natAbs : Int) - (N y).natAbs → HW D A s.heap (wM ad cs M) H locs → lv_has ls 6 [(0, .ref (ad 0)), (1, .int (iI ((x : Nat) : Int))), (2, .int (iI ((y : Nat) : Int))), (3, .int (iI ((q : Nat) : Int))), (4, .int (iI ((j : Int) - 1)))] → W p l e (rm 2) s m args below meth c H locs 0 0 Q (F0 m 36 ls []) := by
      intro n
      induction n with
      | zero =>
        intro j H locs ls h1 h2 hj hw hl
        exfalso; omega
      | succ n ih_key =>
        intro j H locs ls h1 h2 hj hw hl
        refine sy_iload X d_M_against_36 hl 4 rfl ?_
        refine sy_if_lt (tgt := 80) X d_M_against_38 (by decide) ⟨by omega, by omega⟩ (fun c2 => ?_) (fun c2 => ?_)
        · refine sy_iconst X d_M_against_80 ?_
          exact kr () _ _ _ _ _ d_M_against_81 hw trivial (by rw [sgn_0 (v := ((N x).natAbs : Int) - (N y).natAbs) (by rw [← hj, show j = 0 by omega]; rfl)])
        · rw [show ((j : Int) - 1) = ((j - 1 : Nat) : Int) by omega] at hl
          have hbx := hdx j (j - 1) (by omega)
          have hby := hdy j (j - 1) (by omega)
          refine sy_aload_n X d_M_against_41 hl 0 rfl ?_
          refine sy_iload_n X d_M_against_42 hl 1 rfl ?_
          refine sy_iload X d_M_against_43 hl 4 rfl ?_
          refine call_Vi (Xs := []) (b := ad 0) (As := [.int (iI ((x : Nat) : Int)), .int (iI ((j - 1 : Nat) : Int))]) (rest := []) X lk_M_40 (c_M_digitOf l D cs ad M x (j - 1) (by omega) (by omega) hWf) ⟨by decide, by decide⟩ rcv_M hw rfl hl.1 (Nat.le_of_ble_eq_true rfl) d_M_against_45 rfl rfl ⟨Nat.zero_le _, Nat.zero_le _⟩ (fun _ H locs _ hw => ?_)
          refine sy_aload_n X d_M_against_48 hl 0 rfl ?_
          refine sy_iload_n X d_M_against_49 hl 2 rfl ?_
          refine sy_iload X d_M_against_50 hl 4 rfl ?_
          refine call_Vi (Xs := []) (b := ad 0) (As := [.int (iI ((y : Nat) : Int)), .int (iI ((j - 1 : Nat) : Int))]) (rest := [.int (iI (dgt M x (j - 1)))]) X lk_M_40 (c_M_digitOf l D cs ad M y (j - 1) (by omega) (by omega) hWf) ⟨by decide, by decide⟩ rcv_M hw rfl hl.1 (Nat.le_of_ble_eq_true rfl) d_M_against_52 rfl rfl ⟨Nat.zero_le _, Nat.zero_le _⟩ (fun _ H locs _ hw => ?_)
          refine sy_isub X d_M_against_55 ?_
          refine sy_istore (lv1 := [(5, .int (iI ((dgt M x (j - 1)) - (dgt M y (j - 1))))), (0, .ref (ad 0)), (1, .int (iI ((x : Nat) : Int))), (2, .int (iI ((y : Nat) : Int))), (3, .int (iI ((q : Nat) : Int))), (4, .int (iI ((j - 1 : Nat) : Int)))]) X d_M_against_56 hl (by decide) rfl (fun ls hl => ?_)
          refine sy_iload X d_M_against_58 hl 0 rfl ?_
          refine sy_if_eq (tgt := 74) X d_M_against_60 (by decide) ⟨by omega, by omega⟩ (fun c3 => ?_) (fun c3 => ?_)
          · have hj1 : vl (dgt M x) (j - 1) - vl (dgt M y) (j - 1) = ((N x).natAbs : Int) - (N y).natAbs := by
              rw [← hj]
              obtain ⟨t, rfl⟩ : ∃ t, j = t + 1 := ⟨j - 1, by omega⟩
              simp only [Nat.add_sub_cancel] at *
              simp only [vl]
              rw [show dgt M x t = dgt M y t by omega]; omega
            refine sy_iinc (lv1 := [(4, .int (iI (((j - 1 : Nat) : Int) + (-1)))), (5, .int (iI ((dgt M x (j - 1)) - (dgt M y (j - 1))))), (0, .ref (ad 0)), (1, .int (iI ((x : Nat) : Int))), (2, .int (iI ((y : Nat) : Int))), (3, .int (iI ((q : Nat) : Int)))]) X d_M_against_74 hl 5 rfl (by omega) (by decide) rfl (fun ls hl => ?_)
            refine sy_goto (tgt := 36) X d_M_against_77 (by decide) ?_
            rw [show (((j - 1 : Nat) : Int) + (-1)) = (((j - 1 : Nat) : Int) - 1) by omega] at hl
            exact ih_key (j - 1) H locs ls (by omega) (by omega) hj1 hw (lv_sub hl [2, 3, 4, 5, 0] rfl)
          · obtain ⟨t, rfl⟩ : ∃ t, j = t + 1 := ⟨j - 1, by omega⟩
            simp only [Nat.add_sub_cancel] at *
            have hcd := cmp_dig (hdx (t + 1)) (hdy (t + 1))
            have hlo : dgt M x t - dgt M y t < 0 → (((N x).natAbs : Int) - (N y).natAbs).sign = -1 := fun h => sgn_neg (by have := hcd.1 (by omega); omega)
            have hhi : 0 < dgt M x t - dgt M y t → (((N x).natAbs : Int) - (N y).natAbs).sign = 1 := fun h => sgn_pos (by have := hcd.2 (by omega); omega)
            have km4 : ∀ (H : Heap) (locs : List Loc), HW D A s.heap (wM ad cs M) H locs → W p l e (rm 2) s m args below meth c H locs 0 0 Q (F0 m 73 ls [.int (iI ((((N x).natAbs : Int) - (N y).natAbs).sign))]) := by
              intro H locs hw
              exact kr () _ _ _ _ _ d_M_against_73 hw trivial rfl
            refine sy_iload X d_M_against_63 hl 0 rfl ?_
            refine sy_if_ge (tgt := 72) X d_M_against_65 (by decide) ⟨by omega, by omega⟩ (fun c5 => ?_) (fun c5 => ?_)
            · refine sy_iconst X d_M_against_72 ?_
              exact W_topi (by first | exact hlo (by omega) | exact hhi (by omega)) (km4 H locs hw)
            · refine sy_iconst X d_M_against_68 ?_
              refine sy_goto (tgt := 73) X d_M_against_69 (by decide) ?_
              exact W_topi (by first | exact hlo (by omega) | exact hhi (by omega)) (km4 H locs hw)
    exact key (q + 1) q H locs ls (by omega) (by omega) (by rw [hvx, hvy]) hw (lv_sub hl [2, 3, 4, 1, 0] rfl)
  refine sy_aload_n X d_M_against_0 hl 0 rfl ?_
  refine m_get X hw 1 (by decide) rfl (tt_of k510 rfl) d_M_against_1 ?_
  refine sy_iload_n X d_M_against_4 hl 1 rfl ?_
  refine m_ald X hw 2 x (by decide) (by omega) (by simp only [szM]; omega) (M 2 x) rfl d_M_against_5 ?_
  refine sy_aload_n X d_M_against_6 hl 0 rfl ?_
  refine m_get X hw 1 (by decide) rfl (tt_of k510 rfl) d_M_against_7 ?_
  refine sy_iload_n X d_M_against_10 hl 2 rfl ?_
  refine m_ald X hw 2 y (by decide) (by omega) (by simp only [szM]; omega) (M 2 y) rfl d_M_against_11 ?_
  refine sy_icmp_le (tgt := 24) X d_M_against_12 (by decide) ⟨by omega, by omega⟩ ⟨by omega, by omega⟩ (fun c6 => ?_) (fun c6 => ?_)
  · refine sy_aload_n X d_M_against_24 hl 0 rfl ?_
    refine m_get X hw 1 (by decide) rfl (tt_of k510 rfl) d_M_against_25 ?_
    refine sy_iload_n X d_M_against_28 hl 2 rfl ?_
    refine m_ald X hw 2 y (by decide) (by omega) (by simp only [szM]; omega) (M 2 y) rfl d_M_against_29 ?_
    exact W_topi (by omega) (km1 H locs hw)
  · refine sy_aload_n X d_M_against_15 hl 0 rfl ?_
    refine m_get X hw 1 (by decide) rfl (tt_of k510 rfl) d_M_against_16 ?_
    refine sy_iload_n X d_M_against_19 hl 1 rfl ?_
    refine m_ald X hw 2 x (by decide) (by omega) (by simp only [szM]; omega) (M 2 x) rfl d_M_against_20 ?_
    refine sy_goto (tgt := 30) X d_M_against_21 (by decide) ?_
    exact W_topi (by omega) (km1 H locs hw)
set_option maxRecDepth 100000 in
set_option maxHeartbeats 4000000 in
theorem c_M_sum (l : Launch) (D : va_G) (cs : Nat → ClassId) (ad : Nat → Nat) (M : Nat → Nat → Int) (N : Nat → Int) (z x y : Nat) (s0 : Int) (hz : z < 120) (hx : x < 120) (hy : y < 120) (hs0 : s0 = 1 ∨ s0 = -1) (hR : Rep M N) (hb : ((N x + s0 * N y).natAbs : Int) < 65536 ^ 110) : Ct (S := Nat → Nat → Int) l D (tyL cs) y_M_sum b_M_sum 13 none (rm 3) [.ref (ad 0), .int (iI ((z : Nat) : Int)), .int (iI ((x : Nat) : Int)), .int (iI ((y : Nat) : Int)), .int (iI s0)] (wM ad cs M) (fun M1 => Rep M1 (up1 N z (N x + s0 * N y)) ∧ Sm M M1) (fun _ => none) (fun M1 => wM ad cs M1) := by
  refine Ct.introV (by decide) (Nat.le_of_ble_eq_true rfl) (fun _ => rfl) ?_
  intro p e s m below meth c A args Q H locs X hnm hw kr ls hl
  have X : CX D (tyL cs) R_M b_M_sum 13 p m c s args := X
  have hl : lv_has ls 13 [(0, .ref (ad 0)), (1, .int (iI ((z : Nat) : Int))), (2, .int (iI ((x : Nat) : Int))), (3, .int (iI ((y : Nat) : Int))), (4, .int (iI s0))] := hl
  have hWf := hR.wf
  obtain ⟨ux, hux, hux1, hdx, hvx, -, -, hsx⟩ := (hR x hx).dig
  obtain ⟨uy, huy, huy1, hdy, hvy, -, -, hsy⟩ := (hR y hy).dig
  obtain ⟨q, hq⟩ : ∃ q, q = max ux uy := ⟨_, rfl⟩
  have hvx := hvx q (by omega)
  have hvy := hvy q (by omega)
  have hR4 : ∀ r, Rep (upA M 4 r) N := fun r z hz => hR z hz
  have hsgx := sgnR (N x)
  have hsgy := sgnR (N y)
  have hso : -1 ≤ s0 * (N y).sign ∧ s0 * (N y).sign ≤ 1 := by rcases hs0 with h | h <;> subst h <;> omega
  have km1 : ∀ (H : Heap) (locs : List Loc), HW D A s.heap (wM ad cs M) H locs → W p l e (rm 3) s m args below meth c H locs 0 0 Q (F0 m 30 ls [.int (iI (q : Int))]) := by
    intro H locs hw
    refine sy_istore (lv1 := [(5, .int (iI (q : Int))), (0, .ref (ad 0)), (1, .int (iI ((z : Nat) : Int))), (2, .int (iI ((x : Nat) : Int))), (3, .int (iI ((y : Nat) : Int))), (4, .int (iI s0))]) X d_M_sum_30 hl (by decide) rfl (fun ls hl => ?_)
    refine sy_iload X d_M_sum_32 hl 5 rfl ?_
    refine sy_aload_n X d_M_sum_34 hl 1 rfl ?_
    refine m_get X hw 2 (by decide) rfl (tt_of k511 rfl) d_M_sum_35 ?_
    refine sy_iload_n X d_M_sum_38 hl 4 rfl ?_
    refine m_ald X hw 3 y (by decide) (by omega) (by simp only [szM]; omega) ((N y).sign) hsy d_M_sum_39 ?_
    refine sy_imul X d_M_sum_40 ?_
    refine sy_istore (lv1 := [(6, .int (iI (s0 * ((N y).sign)))), (5, .int (iI (q : Int))), (0, .ref (ad 0)), (1, .int (iI ((z : Nat) : Int))), (2, .int (iI ((x : Nat) : Int))), (3, .int (iI ((y : Nat) : Int))), (4, .int (iI s0))]) X d_M_sum_41 hl (by decide) rfl (fun ls hl => ?_)
    refine sy_iconst X d_M_sum_43 ?_
    refine sy_istore (lv1 := [(7, .int (iI 0)), (6, .int (iI (s0 * ((N y).sign)))), (5, .int (iI (q : Int))), (0, .ref (ad 0)), (1, .int (iI ((z : Nat) : Int))), (2, .int (iI ((x : Nat) : Int))), (3, .int (iI ((y : Nat) : Int))), (4, .int (iI s0))]) X d_M_sum_44 hl (by decide) rfl (fun ls hl => ?_)
    refine sy_aload_n X d_M_sum_46 hl 3 rfl ?_
    refine m_get X hw 2 (by decide) rfl (tt_of k511 rfl) d_M_sum_47 ?_
    refine sy_iload_n X d_M_sum_50 hl 5 rfl ?_
    refine m_ald X hw 3 x (by decide) (by omega) (by simp only [szM]; omega) ((N x).sign) hsx d_M_sum_51 ?_
    refine sy_iload X d_M_sum_52 hl 1 rfl ?_
    have hsp : -1 ≤ (N x).sign * (s0 * (N y).sign) ∧ (N x).sign * (s0 * (N y).sign) ≤ 1 := by
      have g1 : (N x).sign = -1 ∨ (N x).sign = 0 ∨ (N x).sign = 1 := by omega
      rcases g1 with h | h | h <;> rw [h] <;> omega
    refine sy_imul X d_M_sum_54 ?_
    refine sy_if_lt (tgt := 152) X d_M_sum_55 (by decide) ⟨by omega, by omega⟩ (fun c2 => ?_) (fun c2 => ?_)
    · refine sy_aload_n X d_M_sum_152 hl 3 rfl ?_
      refine sy_iload_n X d_M_sum_153 hl 5 rfl ?_
      refine sy_iload_n X d_M_sum_154 hl 6 rfl ?_
      refine call_Vi (Xs := []) (b := ad 0) (As := [.int (iI ((x : Nat) : Int)), .int (iI ((y : Nat) : Int))]) (rest := []) X lk_M_49 (c_M_against l D cs ad M N x y (by omega) (by omega) hR) ⟨by decide, by decide⟩ rcv_M hw rfl hl.1 (Nat.le_of_ble_eq_true rfl) d_M_sum_155 rfl rfl ⟨Nat.zero_le _, Nat.zero_le _⟩ (fun _ H locs _ hw => ?_)
      have hsd := sgnR (((N x).natAbs : Int) - (N y).natAbs)
      have hdf := sum_diff (a := N x) (b := N y) hs0 (by omega)
      refine sy_if_lt (tgt := 165) X d_M_sum_158 (by decide) ⟨by omega, by omega⟩ (fun c3 => ?_) (fun c3 => ?_)
      · have hord : ((N x).natAbs : Int) ≤ (N y).natAbs := by
          rcases sgn_1 (((N x).natAbs : Int) - (N y).natAbs) with ⟨g1, g2⟩ | ⟨g1, g2⟩ | ⟨g1, g2⟩ <;> omega
        refine sy_iconst X d_M_sum_165 ?_
        refine sy_istore (lv1 := [(8, .int (iI 0)), (7, .int (iI 0)), (6, .int (iI (s0 * ((N y).sign)))), (5, .int (iI (q : Int))), (0, .ref (ad 0)), (1, .int (iI ((z : Nat) : Int))), (2, .int (iI ((x : Nat) : Int))), (3, .int (iI ((y : Nat) : Int))), (4, .int (iI s0))]) X d_M_sum_166 hl (by decide) rfl (fun ls hl => ?_)
        refine sy_iload X d_M_sum_168 hl 0 rfl ?_
        refine sy_if_eq (tgt := 177) X d_M_sum_170 (by decide) ⟨by decide, by decide⟩ (fun c4 => ?_) (fun c4 => ?_)
        · refine sy_iload_n X d_M_sum_177 hl 7 rfl ?_
          refine sy_istore (lv1 := [(9, .int (iI ((y : Nat) : Int))), (8, .int (iI 0)), (7, .int (iI 0)), (6, .int (iI (s0 * ((N y).sign)))), (5, .int (iI (q : Int))), (0, .ref (ad 0)), (1, .int (iI ((z : Nat) : Int))), (2, .int (iI ((x : Nat) : Int))), (3, .int (iI ((y : Nat) : Int))), (4, .int (iI s0))]) X d_M_sum_178 hl (by decide) rfl (fun ls hl => ?_)
          refine sy_iload X d_M_sum_180 hl 1 rfl ?_
          refine sy_if_eq (tgt := 189) X d_M_sum_182 (by decide) ⟨by decide, by decide⟩ (fun c5 => ?_) (fun c5 => ?_)
          · refine sy_iload_n X d_M_sum_189 hl 7 rfl ?_
            refine sy_istore (lv1 := [(10, .int (iI ((x : Nat) : Int))), (9, .int (iI ((y : Nat) : Int))), (8, .int (iI 0)), (7, .int (iI 0)), (6, .int (iI (s0 * ((N y).sign)))), (5, .int (iI (q : Int))), (0, .ref (ad 0)), (1, .int (iI ((z : Nat) : Int))), (2, .int (iI ((x : Nat) : Int))), (3, .int (iI ((y : Nat) : Int))), (4, .int (iI s0))]) X d_M_sum_190 hl (by decide) rfl (fun ls hl => ?_)
            have eM : M = upA M 4 (M 4) := (upA_self M 4).symm
            refine sy_iconst X d_M_sum_192 ?_
            refine sy_istore (lv1 := [(11, .int (iI 0)), (10, .int (iI ((x : Nat) : Int))), (9, .int (iI ((y : Nat) : Int))), (8, .int (iI 0)), (7, .int (iI 0)), (6, .int (iI (s0 * ((N y).sign)))), (5, .int (iI (q : Int))), (0, .ref (ad 0)), (1, .int (iI ((z : Nat) : Int))), (2, .int (iI ((x : Nat) : Int))), (3, .int (iI ((y : Nat) : Int))), (4, .int (iI s0))]) X d_M_sum_193 hl (by decide) rfl (fun ls hl => ?_)
            have keyB : ∀ (n : Nat) (k : Nat) (r : Nat → Int) (cy : Int) (H : Heap) (locs : List Loc) (ls : Array Slot), k ≤ q → q < k + n → Dg r k → (cy = 0 ∨ cy = -1) → vl r k + cy * 65536 ^ k = vl (dgt M y) k - vl (dgt M x) k → HW D A s.heap (wM ad cs (upA M 4 r)) H locs → lv_has ls 13 [(0, .ref (ad 0)), (1, .int (iI ((z : Nat) : Int))), (2, .int (iI ((x : Nat) : Int))), (3, .int (iI ((y : Nat) : Int))), (4, .int (iI s0)), (5, .int (iI ((q : Nat) : Int))), (6, .int (iI (s0 * (N y).sign))), (7, .int (iI cy)), (8, .int (iI 0)), (9, .int (iI ((y : Nat) : Int))), (10, .int (iI ((x : Nat) : Int))), (11, .int (iI ((k : Nat) : Int)))] → W p l e (rm 3) s m args below meth c H locs 0 0 Q (F0 m 195 ls []) := by
              intro n
              induction n with
              | zero =>
                intro k r cy H locs ls h1 h2 h3 h4 h5 hw hl
                exfalso; omega
              | succ n ih_keyB =>
                intro k r cy H locs ls h1 h2 h3 h4 h5 hw hl
                refine sy_iload X d_M_sum_195 hl 11 rfl ?_
                refine sy_iload X d_M_sum_197 hl 5 rfl ?_
                refine sy_icmp_ge (tgt := 254) X d_M_sum_199 (by decide) ⟨by omega, by omega⟩ ⟨by omega, by omega⟩ (fun c6 => ?_) (fun c6 => ?_)
                · have hkq : k = q := by omega
                  rw [hkq] at h3 h5
                  have hcy : cy = 0 := by
                    rcases h4 with h | h
                    · exact h
                    · exfalso; rw [h] at h5; have := vl_lt h3; rw [hvx, hvy] at h5; omega
                  rw [hcy] at h5
                  have hVr : vl r q = ((N y).natAbs : Int) - (N x).natAbs := by rw [hvx, hvy] at h5; omega
                  have hDr := h3
                  have hBr : ((N y).natAbs : Int) - (N x).natAbs < 65536 ^ 110 := by
                    rcases hdf with ⟨g1, g2, g3, g4⟩
                    rw [← g2] at hb
                    rcases g4 with g | g <;> rw [g] at hb <;> omega
                  have hSr : s0 * (N y).sign = 1 ∨ s0 * (N y).sign = -1 ∨ ((N y).natAbs : Int) - (N x).natAbs = 0 := by
                    rcases hdf.2.2.2 with g | g
                    · exact Or.inl g
                    · exact Or.inr (Or.inl g)
                  have hEr := hdf.2.1
                  refine sy_aload_n X d_M_sum_254 hl 0 rfl ?_
                  refine sy_iload_n X d_M_sum_255 hl 1 rfl ?_
                  refine sy_iload X d_M_sum_256 hl 5 rfl ?_
                  refine sy_iload X d_M_sum_258 hl 8 rfl ?_
                  refine sy_if_eq (tgt := 272) X d_M_sum_260 (by decide) ⟨by decide, by decide⟩ (fun c7 => ?_) (fun c7 => ?_)
                  · refine sy_iload X d_M_sum_272 hl 6 rfl ?_
                    refine call_Vv (Xs := []) (b := ad 0) (As := [.int (iI ((z : Nat) : Int)), .int (iI ((q : Nat) : Int)), .int (iI (s0 * (N y).sign))]) (rest := []) X lk_M_45 (c_M_store l D cs ad (upA M 4 r) N z q (s0 * (N y).sign) (by omega) (by omega) ⟨by omega, by omega⟩ (hR4 r) (by rw [upA_s]; exact hDr) (by rw [upA_s, hVr]; exact hBr) (by rw [upA_s, hVr]; exact hSr)) ⟨by decide, by decide⟩ rcv_M hw rfl hl.1 (Nat.le_of_ble_eq_true rfl) d_M_sum_274 rfl rfl ⟨Nat.zero_le _, Nat.zero_le _⟩ (fun M1 H locs hp hw => ?_)
                    rw [upA_s, hVr, hEr] at hp
                    exact kr _ _ _ _ _ d_M_sum_277 hw ⟨hp.1, hp.2.1⟩
                  · exact absurd c7 (by decide)
                · have hbx := hdx (k + 1) k (by omega)
                  have hby := hdy (k + 1) k (by omega)
                  refine sy_aload_n X d_M_sum_202 hl 0 rfl ?_
                  refine sy_iload X d_M_sum_203 hl 9 rfl ?_
                  refine sy_iload X d_M_sum_205 hl 11 rfl ?_
                  refine call_Vi (Xs := []) (b := ad 0) (As := [.int (iI ((y : Nat) : Int)), .int (iI ((k : Nat) : Int))]) (rest := []) X lk_M_40 (c_M_digitOfR l D cs ad M r y k (by omega) (by omega) hWf) ⟨by decide, by decide⟩ rcv_M hw rfl hl.1 (Nat.le_of_ble_eq_true rfl) d_M_sum_207 rfl rfl ⟨Nat.zero_le _, Nat.zero_le _⟩ (fun _ H locs _ hw => ?_)
                  refine sy_aload_n X d_M_sum_210 hl 0 rfl ?_
                  refine sy_iload X d_M_sum_211 hl 10 rfl ?_
                  refine sy_iload X d_M_sum_213 hl 11 rfl ?_
                  refine call_Vi (Xs := []) (b := ad 0) (As := [.int (iI ((x : Nat) : Int)), .int (iI ((k : Nat) : Int))]) (rest := [.int (iI (dgt M y k))]) X lk_M_40 (c_M_digitOfR l D cs ad M r x k (by omega) (by omega) hWf) ⟨by decide, by decide⟩ rcv_M hw rfl hl.1 (Nat.le_of_ble_eq_true rfl) d_M_sum_215 rfl rfl ⟨Nat.zero_le _, Nat.zero_le _⟩ (fun _ H locs _ hw => ?_)
                  refine sy_isub X d_M_sum_218 ?_
                  refine sy_iload X d_M_sum_219 hl 7 rfl ?_
                  refine sy_iadd X d_M_sum_221 ?_
                  refine sy_istore (lv1 := [(12, .int (iI (((dgt M y k) - (dgt M x k)) + cy))), (0, .ref (ad 0)), (1, .int (iI ((z : Nat) : Int))), (2, .int (iI ((x : Nat) : Int))), (3, .int (iI ((y : Nat) : Int))), (4, .int (iI s0)), (5, .int (iI ((q : Nat) : Int))), (6, .int (iI (s0 * (N y).sign))), (7, .int (iI cy)), (8, .int (iI 0)), (9, .int (iI ((y : Nat) : Int))), (10, .int (iI ((x : Nat) : Int))), (11, .int (iI ((k : Nat) : Int)))]) X d_M_sum_222 hl (by decide) rfl (fun ls hl => ?_)
                  refine sy_aload_n X d_M_sum_224 hl 1 rfl ?_
                  refine m_get X hw 3 (by decide) rfl (tt_of k512 rfl) d_M_sum_225 ?_
                  refine sy_iload X d_M_sum_228 hl 12 rfl ?_
                  refine sy_iload X d_M_sum_230 hl 0 rfl ?_
                  refine sy_ldc (z := 65535) X (tt_of k589 rfl) d_M_sum_232 (by decide) ?_
                  refine sy_iand X 16 65536 d_M_sum_234 (by decide) (by decide) (by decide) ?_
                  refine m_ast X hw 4 k (by decide) (by omega) (by simp only [szM]; omega) d_M_sum_235 (fun H locs hw => ?_)
                  rw [up2_upA] at hw
                  obtain ⟨r1, er1⟩ : ∃ g, g = up1 r k ((((dgt M y k) - (dgt M x k)) + cy) % 65536) := ⟨_, rfl⟩
                  rw [← er1] at hw
                  have km8 : ∀ (H : Heap) (locs : List Loc), HW D A s.heap (wM ad cs (upA M 4 r1)) H locs → W p l e (rm 3) s m args below meth c H locs 0 0 Q (F0 m 246 ls [.int (iI ((((dgt M y k) - (dgt M x k)) + cy) / 65536))]) := by
                    intro H locs hw
                    refine sy_istore (lv1 := [(7, .int (iI ((((dgt M y k) - (dgt M x k)) + cy) / 65536))), (12, .int (iI (((dgt M y k) - (dgt M x k)) + cy))), (0, .ref (ad 0)), (1, .int (iI ((z : Nat) : Int))), (2, .int (iI ((x : Nat) : Int))), (3, .int (iI ((y : Nat) : Int))), (4, .int (iI s0)), (5, .int (iI ((q : Nat) : Int))), (6, .int (iI (s0 * (N y).sign))), (8, .int (iI 0)), (9, .int (iI ((y : Nat) : Int))), (10, .int (iI ((x : Nat) : Int))), (11, .int (iI ((k : Nat) : Int)))]) X d_M_sum_246 hl (by decide) rfl (fun ls hl => ?_)
                    refine sy_iinc (lv1 := [(11, .int (iI ((k + 1 : Nat) : Int))), (7, .int (iI ((((dgt M y k) - (dgt M x k)) + cy) / 65536))), (12, .int (iI (((dgt M y k) - (dgt M x k)) + cy))), (0, .ref (ad 0)), (1, .int (iI ((z : Nat) : Int))), (2, .int (iI ((x : Nat) : Int))), (3, .int (iI ((y : Nat) : Int))), (4, .int (iI s0)), (5, .int (iI ((q : Nat) : Int))), (6, .int (iI (s0 * (N y).sign))), (8, .int (iI 0)), (9, .int (iI ((y : Nat) : Int))), (10, .int (iI ((x : Nat) : Int)))]) X d_M_sum_248 hl 12 rfl (by omega) (by decide) rfl (fun ls hl => ?_)
                    refine sy_goto (tgt := 195) X d_M_sum_251 (by decide) ?_
                    exact ih_keyB (k + 1) r1 _ H locs ls (by omega) (by omega) (by rw [er1]; exact dg_up1 h3 (md0 _).1 (md0 _).2) (by omega) (by rw [er1, vl_up1, B_succ]; have := add_step (c := dgt M y k - dgt M x k + cy) (d := dgt M y k - dgt M x k) (by omega) h5; simp only [vl]; rw [this]; grind) hw (lv_sub hl [3, 4, 5, 6, 7, 8, 9, 1, 10, 11, 12, 0] rfl)
                  refine sy_iload X d_M_sum_236 hl 0 rfl ?_
                  refine sy_if_ge (tgt := 245) X d_M_sum_238 (by decide) ⟨by omega, by omega⟩ (fun c9 => ?_) (fun c9 => ?_)
                  · refine sy_iconst X d_M_sum_245 ?_
                    exact W_topi (by omega) (km8 H locs hw)
                  · refine sy_iconst X d_M_sum_241 ?_
                    refine sy_goto (tgt := 246) X d_M_sum_242 (by decide) ?_
                    exact W_topi (by omega) (km8 H locs hw)
            rw [eM] at hw
            exact keyB (q + 1) 0 (M 4) 0 H locs ls (by omega) (by omega) (fun k hk => by omega) (by omega) (by simp [vl]) hw (lv_sub hl [7, 8, 9, 10, 11, 6, 5, 4, 3, 2, 1, 0] rfl)
          · exact absurd c5 (by decide)
        · exact absurd c4 (by decide)
      · have hord : ((N y).natAbs : Int) ≤ (N x).natAbs := by
          rcases sgn_1 (((N x).natAbs : Int) - (N y).natAbs) with ⟨g1, g2⟩ | ⟨g1, g2⟩ | ⟨g1, g2⟩ <;> omega
        refine sy_iconst X d_M_sum_161 ?_
        refine sy_goto (tgt := 166) X d_M_sum_162 (by decide) ?_
        refine sy_istore (lv1 := [(8, .int (iI 1)), (7, .int (iI 0)), (6, .int (iI (s0 * ((N y).sign)))), (5, .int (iI (q : Int))), (0, .ref (ad 0)), (1, .int (iI ((z : Nat) : Int))), (2, .int (iI ((x : Nat) : Int))), (3, .int (iI ((y : Nat) : Int))), (4, .int (iI s0))]) X d_M_sum_166 hl (by decide) rfl (fun ls hl => ?_)
        refine sy_iload X d_M_sum_168 hl 0 rfl ?_
        refine sy_if_eq (tgt := 177) X d_M_sum_170 (by decide) ⟨by decide, by decide⟩ (fun c10 => ?_) (fun c10 => ?_)
        · exact absurd c10 (by decide)
        · refine sy_iload_n X d_M_sum_173 hl 6 rfl ?_
          refine sy_goto (tgt := 178) X d_M_sum_174 (by decide) ?_
          refine sy_istore (lv1 := [(9, .int (iI ((x : Nat) : Int))), (8, .int (iI 1)), (7, .int (iI 0)), (6, .int (iI (s0 * ((N y).sign)))), (5, .int (iI (q : Int))), (0, .ref (ad 0)), (1, .int (iI ((z : Nat) : Int))), (2, .int (iI ((x : Nat) : Int))), (3, .int (iI ((y : Nat) : Int))), (4, .int (iI s0))]) X d_M_sum_178 hl (by decide) rfl (fun ls hl => ?_)
          refine sy_iload X d_M_sum_180 hl 1 rfl ?_
          refine sy_if_eq (tgt := 189) X d_M_sum_182 (by decide) ⟨by decide, by decide⟩ (fun c11 => ?_) (fun c11 => ?_)
          · exact absurd c11 (by decide)
          · refine sy_iload_n X d_M_sum_185 hl 8 rfl ?_
            refine sy_goto (tgt := 190) X d_M_sum_186 (by decide) ?_
            refine sy_istore (lv1 := [(10, .int (iI ((y : Nat) : Int))), (9, .int (iI ((x : Nat) : Int))), (8, .int (iI 1)), (7, .int (iI 0)), (6, .int (iI (s0 * ((N y).sign)))), (5, .int (iI (q : Int))), (0, .ref (ad 0)), (1, .int (iI ((z : Nat) : Int))), (2, .int (iI ((x : Nat) : Int))), (3, .int (iI ((y : Nat) : Int))), (4, .int (iI s0))]) X d_M_sum_190 hl (by decide) rfl (fun ls hl => ?_)
            have eM : M = upA M 4 (M 4) := (upA_self M 4).symm
            refine sy_iconst X d_M_sum_192 ?_
            refine sy_istore (lv1 := [(11, .int (iI 0)), (10, .int (iI ((y : Nat) : Int))), (9, .int (iI ((x : Nat) : Int))), (8, .int (iI 1)), (7, .int (iI 0)), (6, .int (iI (s0 * ((N y).sign)))), (5, .int (iI (q : Int))), (0, .ref (ad 0)), (1, .int (iI ((z : Nat) : Int))), (2, .int (iI ((x : Nat) : Int))), (3, .int (iI ((y : Nat) : Int))), (4, .int (iI s0))]) X d_M_sum_193 hl (by decide) rfl (fun ls hl => ?_)
            have keyB : ∀ (n : Nat) (k : Nat) (r : Nat → Int) (cy : Int) (H : Heap) (locs : List Loc) (ls : Array Slot), k ≤ q → q < k + n → Dg r k → (cy = 0 ∨ cy = -1) → vl r k + cy * 65536 ^ k = vl (dgt M x) k - vl (dgt M y) k → HW D A s.heap (wM ad cs (upA M 4 r)) H locs → lv_has ls 13 [(0, .ref (ad 0)), (1, .int (iI ((z : Nat) : Int))), (2, .int (iI ((x : Nat) : Int))), (3, .int (iI ((y : Nat) : Int))), (4, .int (iI s0)), (5, .int (iI ((q : Nat) : Int))), (6, .int (iI (s0 * (N y).sign))), (7, .int (iI cy)), (8, .int (iI 1)), (9, .int (iI ((x : Nat) : Int))), (10, .int (iI ((y : Nat) : Int))), (11, .int (iI ((k : Nat) : Int)))] → W p l e (rm 3) s m args below meth c H locs 0 0 Q (F0 m 195 ls []) := by
              intro n
              induction n with
              | zero =>
                intro k r cy H locs ls h1 h2 h3 h4 h5 hw hl
                exfalso; omega
              | succ n ih_keyB =>
                intro k r cy H locs ls h1 h2 h3 h4 h5 hw hl
                refine sy_iload X d_M_sum_195 hl 11 rfl ?_
                refine sy_iload X d_M_sum_197 hl 5 rfl ?_
                refine sy_icmp_ge (tgt := 254) X d_M_sum_199 (by decide) ⟨by omega, by omega⟩ ⟨by omega, by omega⟩ (fun c12 => ?_) (fun c12 => ?_)
                · have hkq : k = q := by omega
                  rw [hkq] at h3 h5
                  have hcy : cy = 0 := by
                    rcases h4 with h | h
                    · exact h
                    · exfalso; rw [h] at h5; have := vl_lt h3; rw [hvx, hvy] at h5; omega
                  rw [hcy] at h5
                  have hVr : vl r q = ((N x).natAbs : Int) - (N y).natAbs := by rw [hvx, hvy] at h5; omega
                  have hDr := h3
                  have hBr : ((N x).natAbs : Int) - (N y).natAbs < 65536 ^ 110 := by
                    rcases hdf with ⟨g1, g2, g3, g4⟩
                    rw [← g1] at hb
                    rcases g3 with g | g <;> rw [g] at hb <;> omega
                  have hSr : (N x).sign = 1 ∨ (N x).sign = -1 ∨ ((N x).natAbs : Int) - (N y).natAbs = 0 := by
                    rcases hdf.2.2.1 with g | g
                    · exact Or.inl g
                    · exact Or.inr (Or.inl g)
                  have hEr := hdf.1
                  refine sy_aload_n X d_M_sum_254 hl 0 rfl ?_
                  refine sy_iload_n X d_M_sum_255 hl 1 rfl ?_
                  refine sy_iload X d_M_sum_256 hl 5 rfl ?_
                  refine sy_iload X d_M_sum_258 hl 8 rfl ?_
                  refine sy_if_eq (tgt := 272) X d_M_sum_260 (by decide) ⟨by decide, by decide⟩ (fun c13 => ?_) (fun c13 => ?_)
                  · exact absurd c13 (by decide)
                  · refine sy_aload_n X d_M_sum_263 hl 0 rfl ?_
                    refine m_get X hw 2 (by decide) rfl (tt_of k511 rfl) d_M_sum_264 ?_
                    refine sy_iload_n X d_M_sum_267 hl 2 rfl ?_
                    refine m_ald X hw 3 x (by decide) (by omega) (by simp only [szM]; omega) ((N x).sign) hsx d_M_sum_268 ?_
                    refine sy_goto (tgt := 274) X d_M_sum_269 (by decide) ?_
                    refine call_Vv (Xs := []) (b := ad 0) (As := [.int (iI ((z : Nat) : Int)), .int (iI ((q : Nat) : Int)), .int (iI ((N x).sign))]) (rest := []) X lk_M_45 (c_M_store l D cs ad (upA M 4 r) N z q ((N x).sign) (by omega) (by omega) ⟨by omega, by omega⟩ (hR4 r) (by rw [upA_s]; exact hDr) (by rw [upA_s, hVr]; exact hBr) (by rw [upA_s, hVr]; exact hSr)) ⟨by decide, by decide⟩ rcv_M hw rfl hl.1 (Nat.le_of_ble_eq_true rfl) d_M_sum_274 rfl rfl ⟨Nat.zero_le _, Nat.zero_le _⟩ (fun M1 H locs hp hw => ?_)
                    rw [upA_s, hVr, hEr] at hp
                    exact kr _ _ _ _ _ d_M_sum_277 hw ⟨hp.1, hp.2.1⟩
                · have hbx := hdx (k + 1) k (by omega)
                  have hby := hdy (k + 1) k (by omega)
                  refine sy_aload_n X d_M_sum_202 hl 0 rfl ?_
                  refine sy_iload X d_M_sum_203 hl 9 rfl ?_
                  refine sy_iload X d_M_sum_205 hl 11 rfl ?_
                  refine call_Vi (Xs := []) (b := ad 0) (As := [.int (iI ((x : Nat) : Int)), .int (iI ((k : Nat) : Int))]) (rest := []) X lk_M_40 (c_M_digitOfR l D cs ad M r x k (by omega) (by omega) hWf) ⟨by decide, by decide⟩ rcv_M hw rfl hl.1 (Nat.le_of_ble_eq_true rfl) d_M_sum_207 rfl rfl ⟨Nat.zero_le _, Nat.zero_le _⟩ (fun _ H locs _ hw => ?_)
                  refine sy_aload_n X d_M_sum_210 hl 0 rfl ?_
                  refine sy_iload X d_M_sum_211 hl 10 rfl ?_
                  refine sy_iload X d_M_sum_213 hl 11 rfl ?_
                  refine call_Vi (Xs := []) (b := ad 0) (As := [.int (iI ((y : Nat) : Int)), .int (iI ((k : Nat) : Int))]) (rest := [.int (iI (dgt M x k))]) X lk_M_40 (c_M_digitOfR l D cs ad M r y k (by omega) (by omega) hWf) ⟨by decide, by decide⟩ rcv_M hw rfl hl.1 (Nat.le_of_ble_eq_true rfl) d_M_sum_215 rfl rfl ⟨Nat.zero_le _, Nat.zero_le _⟩ (fun _ H locs _ hw => ?_)
                  refine sy_isub X d_M_sum_218 ?_
                  refine sy_iload X d_M_sum_219 hl 7 rfl ?_
                  refine sy_iadd X d_M_sum_221 ?_
                  refine sy_istore (lv1 := [(12, .int (iI (((dgt M x k) - (dgt M y k)) + cy))), (0, .ref (ad 0)), (1, .int (iI ((z : Nat) : Int))), (2, .int (iI ((x : Nat) : Int))), (3, .int (iI ((y : Nat) : Int))), (4, .int (iI s0)), (5, .int (iI ((q : Nat) : Int))), (6, .int (iI (s0 * (N y).sign))), (7, .int (iI cy)), (8, .int (iI 1)), (9, .int (iI ((x : Nat) : Int))), (10, .int (iI ((y : Nat) : Int))), (11, .int (iI ((k : Nat) : Int)))]) X d_M_sum_222 hl (by decide) rfl (fun ls hl => ?_)
                  refine sy_aload_n X d_M_sum_224 hl 1 rfl ?_
                  refine m_get X hw 3 (by decide) rfl (tt_of k512 rfl) d_M_sum_225 ?_
                  refine sy_iload X d_M_sum_228 hl 12 rfl ?_
                  refine sy_iload X d_M_sum_230 hl 0 rfl ?_
                  refine sy_ldc (z := 65535) X (tt_of k589 rfl) d_M_sum_232 (by decide) ?_
                  refine sy_iand X 16 65536 d_M_sum_234 (by decide) (by decide) (by decide) ?_
                  refine m_ast X hw 4 k (by decide) (by omega) (by simp only [szM]; omega) d_M_sum_235 (fun H locs hw => ?_)
                  rw [up2_upA] at hw
                  obtain ⟨r2, er2⟩ : ∃ g, g = up1 r k ((((dgt M x k) - (dgt M y k)) + cy) % 65536) := ⟨_, rfl⟩
                  rw [← er2] at hw
                  have km14 : ∀ (H : Heap) (locs : List Loc), HW D A s.heap (wM ad cs (upA M 4 r2)) H locs → W p l e (rm 3) s m args below meth c H locs 0 0 Q (F0 m 246 ls [.int (iI ((((dgt M x k) - (dgt M y k)) + cy) / 65536))]) := by
                    intro H locs hw
                    refine sy_istore (lv1 := [(7, .int (iI ((((dgt M x k) - (dgt M y k)) + cy) / 65536))), (12, .int (iI (((dgt M x k) - (dgt M y k)) + cy))), (0, .ref (ad 0)), (1, .int (iI ((z : Nat) : Int))), (2, .int (iI ((x : Nat) : Int))), (3, .int (iI ((y : Nat) : Int))), (4, .int (iI s0)), (5, .int (iI ((q : Nat) : Int))), (6, .int (iI (s0 * (N y).sign))), (8, .int (iI 1)), (9, .int (iI ((x : Nat) : Int))), (10, .int (iI ((y : Nat) : Int))), (11, .int (iI ((k : Nat) : Int)))]) X d_M_sum_246 hl (by decide) rfl (fun ls hl => ?_)
                    refine sy_iinc (lv1 := [(11, .int (iI ((k + 1 : Nat) : Int))), (7, .int (iI ((((dgt M x k) - (dgt M y k)) + cy) / 65536))), (12, .int (iI (((dgt M x k) - (dgt M y k)) + cy))), (0, .ref (ad 0)), (1, .int (iI ((z : Nat) : Int))), (2, .int (iI ((x : Nat) : Int))), (3, .int (iI ((y : Nat) : Int))), (4, .int (iI s0)), (5, .int (iI ((q : Nat) : Int))), (6, .int (iI (s0 * (N y).sign))), (8, .int (iI 1)), (9, .int (iI ((x : Nat) : Int))), (10, .int (iI ((y : Nat) : Int)))]) X d_M_sum_248 hl 12 rfl (by omega) (by decide) rfl (fun ls hl => ?_)
                    refine sy_goto (tgt := 195) X d_M_sum_251 (by decide) ?_
                    exact ih_keyB (k + 1) r2 _ H locs ls (by omega) (by omega) (by rw [er2]; exact dg_up1 h3 (md0 _).1 (md0 _).2) (by omega) (by rw [er2, vl_up1, B_succ]; have := add_step (c := dgt M x k - dgt M y k + cy) (d := dgt M x k - dgt M y k) (by omega) h5; simp only [vl]; rw [this]; grind) hw (lv_sub hl [3, 4, 5, 6, 7, 8, 9, 1, 10, 11, 12, 0] rfl)
                  refine sy_iload X d_M_sum_236 hl 0 rfl ?_
                  refine sy_if_ge (tgt := 245) X d_M_sum_238 (by decide) ⟨by omega, by omega⟩ (fun c15 => ?_) (fun c15 => ?_)
                  · refine sy_iconst X d_M_sum_245 ?_
                    exact W_topi (by omega) (km14 H locs hw)
                  · refine sy_iconst X d_M_sum_241 ?_
                    refine sy_goto (tgt := 246) X d_M_sum_242 (by decide) ?_
                    exact W_topi (by omega) (km14 H locs hw)
            rw [eM] at hw
            exact keyB (q + 1) 0 (M 4) 0 H locs ls (by omega) (by omega) (fun k hk => by omega) (by omega) (by simp [vl]) hw (lv_sub hl [7, 8, 9, 10, 11, 6, 5, 4, 3, 2, 1, 0] rfl)
    · have eM : M = upA M 4 (M 4) := (upA_self M 4).symm
      refine sy_iconst X d_M_sum_58 ?_
      refine sy_istore (lv1 := [(8, .int (iI 0)), (7, .int (iI 0)), (6, .int (iI (s0 * ((N y).sign)))), (5, .int (iI (q : Int))), (0, .ref (ad 0)), (1, .int (iI ((z : Nat) : Int))), (2, .int (iI ((x : Nat) : Int))), (3, .int (iI ((y : Nat) : Int))), (4, .int (iI s0))]) X d_M_sum_59 hl (by decide) rfl (fun ls hl => ?_)
      have keyA : ∀ (n : Nat) (k : Nat) (r : Nat → Int) (cy : Int) (H : Heap) (locs : List Loc) (ls : Array Slot), k ≤ q → q < k + n → Dg r k → 0 ≤ cy ∧ cy ≤ 1 → vl r k + cy * 65536 ^ k = vl (dgt M x) k + vl (dgt M y) k → HW D A s.heap (wM ad cs (upA M 4 r)) H locs → lv_has ls 13 [(0, .ref (ad 0)), (1, .int (iI ((z : Nat) : Int))), (2, .int (iI ((x : Nat) : Int))), (3, .int (iI ((y : Nat) : Int))), (4, .int (iI s0)), (5, .int (iI ((q : Nat) : Int))), (6, .int (iI (s0 * (N y).sign))), (7, .int (iI cy)), (8, .int (iI ((k : Nat) : Int)))] → W p l e (rm 3) s m args below meth c H locs 0 0 Q (F0 m 61 ls []) := by
        intro n
        induction n with
        | zero =>
          intro k r cy H locs ls h1 h2 h3 h4 h5 hw hl
          exfalso; omega
        | succ n ih_keyA =>
          intro k r cy H locs ls h1 h2 h3 h4 h5 hw hl
          refine sy_iload X d_M_sum_61 hl 8 rfl ?_
          refine sy_iload X d_M_sum_63 hl 5 rfl ?_
          refine sy_icmp_ge (tgt := 113) X d_M_sum_65 (by decide) ⟨by omega, by omega⟩ ⟨by omega, by omega⟩ (fun c16 => ?_) (fun c16 => ?_)
          · refine sy_aload_n X d_M_sum_113 hl 0 rfl ?_
            refine m_get X hw 3 (by decide) rfl (tt_of k512 rfl) d_M_sum_114 ?_
            refine sy_iload X d_M_sum_117 hl 5 rfl ?_
            refine sy_iload X d_M_sum_119 hl 7 rfl ?_
            refine m_ast X hw 4 q (by decide) (by omega) (by simp only [szM]; omega) d_M_sum_121 (fun H locs hw => ?_)
            rw [up2_upA] at hw
            obtain ⟨r3, er3⟩ : ∃ g, g = up1 r q cy := ⟨_, rfl⟩
            rw [← er3] at hw
            have hkq : k = q := by omega
            rw [hkq] at h3 h5
            have hVr : vl r3 (q + 1) = ((N x).natAbs : Int) + (N y).natAbs := by rw [er3, vl_up1, h5, hvx, hvy]
            have hDr : Dg r3 (q + 1) := by rw [er3]; exact dg_up1 h3 h4.1 (by omega)
            have hSr := sum_sgn (a := N x) (b := N y) hs0
            have hBr : ((N x).natAbs : Int) + (N y).natAbs < 65536 ^ 110 := by rcases hs0 with h | h <;> subst h <;> rcases sgn_1 (N x) with ⟨g1, g2⟩ | ⟨g1, g2⟩ | ⟨g1, g2⟩ <;> rcases sgn_1 (N y) with ⟨f1, f2⟩ | ⟨f1, f2⟩ | ⟨f1, f2⟩ <;> simp only [g1, f1] at hsp c2 <;> omega
            have hEr := sum_same (a := N x) (b := N y) hs0 (by omega)
            refine sy_aload_n X d_M_sum_122 hl 0 rfl ?_
            refine sy_iload_n X d_M_sum_123 hl 1 rfl ?_
            refine sy_iload X d_M_sum_124 hl 5 rfl ?_
            refine sy_iconst X d_M_sum_126 ?_
            refine sy_iadd X d_M_sum_127 ?_
            have km17 : ∀ (H : Heap) (locs : List Loc), HW D A s.heap (wM ad cs (upA M 4 r3)) H locs → W p l e (rm 3) s m args below meth c H locs 0 0 Q (F0 m 148 ls [.int (iI (if (N x).sign = 0 then s0 * (N y).sign else (N x).sign)), .int (iI (((q : Nat) : Int) + 1)), .int (iI ((z : Nat) : Int)), .ref (ad 0)]) := by
              intro H locs hw
              refine call_Vv (Xs := []) (b := ad 0) (As := [.int (iI ((z : Nat) : Int)), .int (iI (((q : Nat) : Int) + 1)), .int (iI (if (N x).sign = 0 then s0 * (N y).sign else (N x).sign))]) (rest := []) X lk_M_45 (c_M_store l D cs ad (upA M 4 r3) N z (q + 1) (if (N x).sign = 0 then s0 * (N y).sign else (N x).sign) (by omega) (by omega) ⟨by omega, by omega⟩ (hR4 r3) (by rw [upA_s]; exact hDr) (by rw [upA_s, hVr]; exact hBr) (by rw [upA_s, hVr]; exact hSr)) ⟨by decide, by decide⟩ rcv_M hw rfl hl.1 (Nat.le_of_ble_eq_true rfl) d_M_sum_148 rfl rfl ⟨Nat.zero_le _, Nat.zero_le _⟩ (fun M1 H locs hp hw => ?_)
              rw [upA_s, hVr, hEr] at hp
              exact kr _ _ _ _ _ d_M_sum_151 hw ⟨hp.1, hp.2.1⟩
            refine sy_aload_n X d_M_sum_128 hl 0 rfl ?_
            refine m_get X hw 2 (by decide) rfl (tt_of k511 rfl) d_M_sum_129 ?_
            refine sy_iload_n X d_M_sum_132 hl 2 rfl ?_
            refine m_ald X hw 3 x (by decide) (by omega) (by simp only [szM]; omega) ((N x).sign) hsx d_M_sum_133 ?_
            refine sy_if_ne (tgt := 142) X d_M_sum_134 (by decide) ⟨by omega, by omega⟩ (fun c18 => ?_) (fun c18 => ?_)
            · refine sy_aload_n X d_M_sum_142 hl 0 rfl ?_
              refine m_get X hw 2 (by decide) rfl (tt_of k511 rfl) d_M_sum_143 ?_
              refine sy_iload_n X d_M_sum_146 hl 2 rfl ?_
              refine m_ald X hw 3 x (by decide) (by omega) (by simp only [szM]; omega) ((N x).sign) hsx d_M_sum_147 ?_
              exact W_topi (by split <;> first | rfl | omega) (km17 H locs hw)
            · refine sy_iload X d_M_sum_137 hl 6 rfl ?_
              refine sy_goto (tgt := 148) X d_M_sum_139 (by decide) ?_
              exact W_topi (by split <;> first | rfl | omega) (km17 H locs hw)
          · have hbx := hdx (k + 1) k (by omega)
            have hby := hdy (k + 1) k (by omega)
            refine sy_iload X d_M_sum_68 hl 7 rfl ?_
            refine sy_aload_n X d_M_sum_70 hl 0 rfl ?_
            refine sy_iload_n X d_M_sum_71 hl 2 rfl ?_
            refine sy_iload X d_M_sum_72 hl 8 rfl ?_
            refine call_Vi (Xs := []) (b := ad 0) (As := [.int (iI ((x : Nat) : Int)), .int (iI ((k : Nat) : Int))]) (rest := [.int (iI cy)]) X lk_M_40 (c_M_digitOfR l D cs ad M r x k (by omega) (by omega) hWf) ⟨by decide, by decide⟩ rcv_M hw rfl hl.1 (Nat.le_of_ble_eq_true rfl) d_M_sum_74 rfl rfl ⟨Nat.zero_le _, Nat.zero_le _⟩ (fun _ H locs _ hw => ?_)
            refine sy_iadd X d_M_sum_77 ?_
            refine sy_aload_n X d_M_sum_78 hl 0 rfl ?_
            refine sy_iload_n X d_M_sum_79 hl 3 rfl ?_
            refine sy_iload X d_M_sum_80 hl 8 rfl ?_
            refine call_Vi (Xs := []) (b := ad 0) (As := [.int (iI ((y : Nat) : Int)), .int (iI ((k : Nat) : Int))]) (rest := [.int (iI (cy + (dgt M x k)))]) X lk_M_40 (c_M_digitOfR l D cs ad M r y k (by omega) (by omega) hWf) ⟨by decide, by decide⟩ rcv_M hw rfl hl.1 (Nat.le_of_ble_eq_true rfl) d_M_sum_82 rfl rfl ⟨Nat.zero_le _, Nat.zero_le _⟩ (fun _ H locs _ hw => ?_)
            refine sy_iadd X d_M_sum_85 ?_
            refine sy_istore (lv1 := [(7, .int (iI ((cy + (dgt M x k)) + (dgt M y k)))), (0, .ref (ad 0)), (1, .int (iI ((z : Nat) : Int))), (2, .int (iI ((x : Nat) : Int))), (3, .int (iI ((y : Nat) : Int))), (4, .int (iI s0)), (5, .int (iI ((q : Nat) : Int))), (6, .int (iI (s0 * (N y).sign))), (8, .int (iI ((k : Nat) : Int)))]) X d_M_sum_86 hl (by decide) rfl (fun ls hl => ?_)
            refine sy_aload_n X d_M_sum_88 hl 1 rfl ?_
            refine m_get X hw 3 (by decide) rfl (tt_of k512 rfl) d_M_sum_89 ?_
            refine sy_iload X d_M_sum_92 hl 8 rfl ?_
            refine sy_iload X d_M_sum_94 hl 0 rfl ?_
            refine sy_ldc (z := 65535) X (tt_of k589 rfl) d_M_sum_96 (by decide) ?_
            refine sy_iand X 16 65536 d_M_sum_98 (by decide) (by decide) (by decide) ?_
            refine m_ast X hw 4 k (by decide) (by omega) (by simp only [szM]; omega) d_M_sum_99 (fun H locs hw => ?_)
            rw [up2_upA] at hw
            obtain ⟨r4, er4⟩ : ∃ g, g = up1 r k (((cy + (dgt M x k)) + (dgt M y k)) % 65536) := ⟨_, rfl⟩
            rw [← er4] at hw
            refine sy_iload X d_M_sum_100 hl 0 rfl ?_
            refine sy_bipush X d_M_sum_102 (by decide) ?_
            refine sy_ishr X 65536 d_M_sum_104 ⟨by omega, by omega⟩ (by omega) (by omega) (by decide) ?_
            refine sy_istore (lv1 := [(7, .int (iI (((cy + (dgt M x k)) + (dgt M y k)) / 65536))), (0, .ref (ad 0)), (1, .int (iI ((z : Nat) : Int))), (2, .int (iI ((x : Nat) : Int))), (3, .int (iI ((y : Nat) : Int))), (4, .int (iI s0)), (5, .int (iI ((q : Nat) : Int))), (6, .int (iI (s0 * (N y).sign))), (8, .int (iI ((k : Nat) : Int)))]) X d_M_sum_105 hl (by decide) rfl (fun ls hl => ?_)
            refine sy_iinc (lv1 := [(8, .int (iI ((k + 1 : Nat) : Int))), (7, .int (iI (((cy + (dgt M x k)) + (dgt M y k)) / 65536))), (0, .ref (ad 0)), (1, .int (iI ((z : Nat) : Int))), (2, .int (iI ((x : Nat) : Int))), (3, .int (iI ((y : Nat) : Int))), (4, .int (iI s0)), (5, .int (iI ((q : Nat) : Int))), (6, .int (iI (s0 * (N y).sign)))]) X d_M_sum_107 hl 8 rfl (by omega) (by decide) rfl (fun ls hl => ?_)
            refine sy_goto (tgt := 61) X d_M_sum_110 (by decide) ?_
            exact ih_keyA (k + 1) r4 _ H locs ls (by omega) (by omega) (by rw [er4]; exact dg_up1 h3 (md0 _).1 (md0 _).2) ⟨by omega, by omega⟩ (by rw [er4, vl_up1, B_succ]; have := add_step (c := cy + dgt M x k + dgt M y k) (d := dgt M x k + dgt M y k) (by omega) h5; simp only [vl]; rw [this]; grind) hw (lv_sub hl [2, 3, 4, 5, 6, 7, 8, 1, 0] rfl)
      rw [eM] at hw
      exact keyA (q + 1) 0 (M 4) 0 H locs ls (by omega) (by omega) (fun k hk => by omega) (by omega) (by simp [vl]) hw (lv_sub hl [4, 5, 6, 7, 8, 3, 2, 1, 0] rfl)
  refine sy_aload_n X d_M_sum_0 hl 0 rfl ?_
  refine m_get X hw 1 (by decide) rfl (tt_of k510 rfl) d_M_sum_1 ?_
  refine sy_iload_n X d_M_sum_4 hl 2 rfl ?_
  refine m_ald X hw 2 x (by decide) (by omega) (by simp only [szM]; omega) (M 2 x) rfl d_M_sum_5 ?_
  refine sy_aload_n X d_M_sum_6 hl 0 rfl ?_
  refine m_get X hw 1 (by decide) rfl (tt_of k510 rfl) d_M_sum_7 ?_
  refine sy_iload_n X d_M_sum_10 hl 3 rfl ?_
  refine m_ald X hw 2 y (by decide) (by omega) (by simp only [szM]; omega) (M 2 y) rfl d_M_sum_11 ?_
  refine sy_icmp_le (tgt := 24) X d_M_sum_12 (by decide) ⟨by omega, by omega⟩ ⟨by omega, by omega⟩ (fun c19 => ?_) (fun c19 => ?_)
  · refine sy_aload_n X d_M_sum_24 hl 0 rfl ?_
    refine m_get X hw 1 (by decide) rfl (tt_of k510 rfl) d_M_sum_25 ?_
    refine sy_iload_n X d_M_sum_28 hl 3 rfl ?_
    refine m_ald X hw 2 y (by decide) (by omega) (by simp only [szM]; omega) (M 2 y) rfl d_M_sum_29 ?_
    exact W_topi (by omega) (km1 H locs hw)
  · refine sy_aload_n X d_M_sum_15 hl 0 rfl ?_
    refine m_get X hw 1 (by decide) rfl (tt_of k510 rfl) d_M_sum_16 ?_
    refine sy_iload_n X d_M_sum_19 hl 2 rfl ?_
    refine m_ald X hw 2 x (by decide) (by omega) (by simp only [szM]; omega) (M 2 x) rfl d_M_sum_20 ?_
    refine sy_goto (tgt := 30) X d_M_sum_21 (by decide) ?_
    exact W_topi (by omega) (km1 H locs hw)
