theorem zero_up {r : Nat → Int} {k : Nat} (h : ∀ j, j < k → r j = 0) : ∀ j, j < k + 1 → up1 r k 0 j = 0 := fun j hj => by
  by_cases e : j = k
  · rw [e, up1_s]
  · rw [up1_n _ e]; exact h j (by omega)
theorem mul_abs (a b : Int) : a.sign * b.sign * ((a.natAbs : Int) * (b.natAbs : Int)) = a * b := by
  have h1 := sgn_abs a
  have h2 := sgn_abs b
  generalize a.sign = s at *
  generalize b.sign = t at *
  generalize (a.natAbs : Int) = x at *
  generalize (b.natAbs : Int) = y at *
  subst h1; subst h2; grind
theorem mul_sgn (a b : Int) : a.sign * b.sign = 1 ∨ a.sign * b.sign = -1 ∨ (a.natAbs : Int) * (b.natAbs : Int) = 0 := by
  rcases sgn_1 a with ⟨h1, h2⟩ | ⟨h1, h2⟩ | ⟨h1, h2⟩ <;> rcases sgn_1 b with ⟨g1, g2⟩ | ⟨g1, g2⟩ | ⟨g1, g2⟩ <;> simp [h1, g1] <;> simp [h2, g2]
theorem times_step {i j : Nat} {VR VR0 cy rk dx : Int} {dy : Nat → Int} (h : VR + cy * 65536 ^ (i + j) = VR0 + dx * vl dy j * 65536 ^ i) : (VR + ((cy + rk + dx * dy j) % 65536 - rk) * 65536 ^ (i + j)) + (cy + rk + dx * dy j) / 65536 * 65536 ^ (i + (j + 1)) = VR0 + dx * vl dy (j + 1) * 65536 ^ i := by
  have := mul_step (c := cy + rk + dx * dy j) (d := dx * dy j) rfl h
  rw [← Nat.add_assoc, B_succ, this]
  simp only [vl]
  rw [Int.pow_add]
  grind
set_option maxRecDepth 100000 in
set_option maxHeartbeats 4000000 in
theorem c_M_times (l : Launch) (D : va_G) (cs : Nat → ClassId) (ad : Nat → Nat) (M : Nat → Nat → Int) (N : Nat → Int) (z x y : Nat) (hz : z < 120) (hx : x < 120) (hy : y < 120) (hR : Rep M N) (hb : ((N x * N y).natAbs : Int) < 65536 ^ 110) : Ct (S := Nat → Nat → Int) l D (tyL cs) y_M_times b_M_times 9 none (rm 2) [.ref (ad 0), .int (iI ((z : Nat) : Int)), .int (iI ((x : Nat) : Int)), .int (iI ((y : Nat) : Int))] (wM ad cs M) (fun M1 => Rep M1 (up1 N z (N x * N y)) ∧ Sm M M1) (fun _ => none) (fun M1 => wM ad cs M1) := by
  refine Ct.introV (by decide) (Nat.le_of_ble_eq_true rfl) (fun _ => rfl) ?_
  intro p e s m below meth c A args Q H locs X hnm hw kr ls hl
  have X : CX D (tyL cs) R_M b_M_times 9 p m c s args := X
  have hl : lv_has ls 9 [(0, .ref (ad 0)), (1, .int (iI ((z : Nat) : Int))), (2, .int (iI ((x : Nat) : Int))), (3, .int (iI ((y : Nat) : Int)))] := hl
  have hWf := hR.wf
  obtain ⟨ux, hux, hux1, hdx, hvx, -, -, hsx⟩ := (hR x hx).dig
  obtain ⟨uy, huy, huy1, hdy, hvy, -, -, hsy⟩ := (hR y hy).dig
  have hvx := hvx ux (by omega)
  have hvy := hvy uy (by omega)
  have hR4 : ∀ r, Rep (upA M 4 r) N := fun r z hz => hR z hz
  have hsgx := sgnR (N x)
  have hsgy := sgnR (N y)
  refine sy_aload_n X d_M_times_0 hl 0 rfl ?_
  refine m_get X hw 1 (by decide) rfl (tt_of k510 rfl) d_M_times_1 ?_
  refine sy_iload_n X d_M_times_4 hl 2 rfl ?_
  refine m_ald X hw 2 x (by decide) (by omega) (by simp only [szM]; omega) (ux : Int) hux d_M_times_5 ?_
  refine sy_aload_n X d_M_times_6 hl 0 rfl ?_
  refine m_get X hw 1 (by decide) rfl (tt_of k510 rfl) d_M_times_7 ?_
  refine sy_iload_n X d_M_times_10 hl 3 rfl ?_
  refine m_ald X hw 2 y (by decide) (by omega) (by simp only [szM]; omega) (uy : Int) huy d_M_times_11 ?_
  refine sy_iadd X d_M_times_12 ?_
  refine sy_istore (lv1 := [(4, .int (iI ((ux : Int) + (uy : Int)))), (0, .ref (ad 0)), (1, .int (iI ((z : Nat) : Int))), (2, .int (iI ((x : Nat) : Int))), (3, .int (iI ((y : Nat) : Int)))]) X d_M_times_13 hl (by decide) rfl (fun ls hl => ?_)
  have eM : M = upA M 4 (M 4) := (upA_self M 4).symm
  refine sy_iconst X d_M_times_15 ?_
  refine sy_istore (lv1 := [(5, .int (iI 0)), (4, .int (iI ((ux : Int) + (uy : Int)))), (0, .ref (ad 0)), (1, .int (iI ((z : Nat) : Int))), (2, .int (iI ((x : Nat) : Int))), (3, .int (iI ((y : Nat) : Int)))]) X d_M_times_16 hl (by decide) rfl (fun ls hl => ?_)
  have key0 : ∀ (n : Nat) (k : Nat) (r : Nat → Int) (H : Heap) (locs : List Loc) (ls : Array Slot), k ≤ ux + uy → ux + uy < k + n → (∀ j, j < k → r j = 0) → HW D A s.heap (wM ad cs (upA M 4 r)) H locs → lv_has ls 9 [(0, .ref (ad 0)), (1, .int (iI ((z : Nat) : Int))), (2, .int (iI ((x : Nat) : Int))), (3, .int (iI ((y : Nat) : Int))), (4, .int (iI ((ux : Int) + (uy : Int)))), (5, .int (iI ((k : Nat) : Int)))] → W p l e (rm 2) s m args below meth c H locs 0 0 Q (F0 m 18 ls []) := by
    intro n
    induction n with
    | zero =>
      intro k r H locs ls h1 h2 h3 hw hl
      exfalso; omega
    | succ n ih_key0 =>
      intro k r H locs ls h1 h2 h3 hw hl
      refine sy_iload X d_M_times_18 hl 5 rfl ?_
      refine sy_iload X d_M_times_20 hl 4 rfl ?_
      refine sy_icmp_ge (tgt := 39) X d_M_times_22 (by decide) ⟨by omega, by omega⟩ ⟨by omega, by omega⟩ (fun c1 => ?_) (fun c1 => ?_)
      · refine sy_iconst X d_M_times_39 ?_
        refine sy_istore (lv1 := [(5, .int (iI 0)), (0, .ref (ad 0)), (1, .int (iI ((z : Nat) : Int))), (2, .int (iI ((x : Nat) : Int))), (3, .int (iI ((y : Nat) : Int))), (4, .int (iI ((ux : Int) + (uy : Int))))]) X d_M_times_40 hl (by decide) rfl (fun ls hl => ?_)
        have keyO : ∀ (n : Nat) (i : Nat) (r : Nat → Int) (H : Heap) (locs : List Loc) (ls : Array Slot), i ≤ ux → ux < i + n → Dg r (ux + uy) → vl r (ux + uy) = vl (dgt M x) i * ((N y).natAbs : Int) → (∀ j, i + uy ≤ j → j < ux + uy → r j = 0) → HW D A s.heap (wM ad cs (upA M 4 r)) H locs → lv_has ls 9 [(0, .ref (ad 0)), (1, .int (iI ((z : Nat) : Int))), (2, .int (iI ((x : Nat) : Int))), (3, .int (iI ((y : Nat) : Int))), (4, .int (iI ((ux : Int) + (uy : Int)))), (5, .int (iI ((i : Nat) : Int)))] → W p l e (rm 2) s m args below meth c H locs 0 0 Q (F0 m 42 ls []) := by
          intro n
          induction n with
          | zero =>
            intro i r H locs ls g1 g2 g3 g4 g5 hw hl
            exfalso; omega
          | succ n ih_keyO =>
            intro i r H locs ls g1 g2 g3 g4 g5 hw hl
            refine sy_iload X d_M_times_42 hl 5 rfl ?_
            refine sy_aload_n X d_M_times_44 hl 0 rfl ?_
            refine m_get X hw 1 (by decide) rfl (tt_of k510 rfl) d_M_times_45 ?_
            refine sy_iload_n X d_M_times_48 hl 2 rfl ?_
            refine m_ald X hw 2 x (by decide) (by omega) (by simp only [szM]; omega) (ux : Int) hux d_M_times_49 ?_
            refine sy_icmp_ge (tgt := 157) X d_M_times_50 (by decide) ⟨by omega, by omega⟩ ⟨by omega, by omega⟩ (fun c2 => ?_) (fun c2 => ?_)
            · have hi : i = ux := by omega
              rw [hi, hvx] at g4
              have hVr := g4
              have hDr := g3
              have hBr : ((N x).natAbs : Int) * ((N y).natAbs : Int) < 65536 ^ 110 := by rw [Int.natAbs_mul] at hb; simpa using hb
              have hSr := mul_sgn (N x) (N y)
              have hsm : -1 ≤ (N x).sign * (N y).sign ∧ (N x).sign * (N y).sign ≤ 1 := by rw [← Int.sign_mul]; exact sgnR _
              refine sy_aload_n X d_M_times_157 hl 0 rfl ?_
              refine sy_iload_n X d_M_times_158 hl 1 rfl ?_
              refine sy_iload X d_M_times_159 hl 4 rfl ?_
              refine sy_aload_n X d_M_times_161 hl 0 rfl ?_
              refine m_get X hw 2 (by decide) rfl (tt_of k511 rfl) d_M_times_162 ?_
              refine sy_iload_n X d_M_times_165 hl 2 rfl ?_
              refine m_ald X hw 3 x (by decide) (by omega) (by simp only [szM]; omega) ((N x).sign) hsx d_M_times_166 ?_
              refine sy_aload_n X d_M_times_167 hl 0 rfl ?_
              refine m_get X hw 2 (by decide) rfl (tt_of k511 rfl) d_M_times_168 ?_
              refine sy_iload_n X d_M_times_171 hl 3 rfl ?_
              refine m_ald X hw 3 y (by decide) (by omega) (by simp only [szM]; omega) ((N y).sign) hsy d_M_times_172 ?_
              refine sy_imul X d_M_times_173 ?_
              refine call_Vv (Xs := []) (b := ad 0) (As := [.int (iI ((z : Nat) : Int)), .int (iI ((ux : Int) + (uy : Int))), .int (iI (((N x).sign) * ((N y).sign)))]) (rest := []) X lk_M_45 (c_M_store l D cs ad (upA M 4 r) N z (ux + uy) (((N x).sign) * ((N y).sign)) (by omega) (by omega) ⟨by omega, by omega⟩ (hR4 r) (by rw [upA_s]; exact hDr) (by rw [upA_s, hVr]; exact hBr) (by rw [upA_s, hVr]; exact hSr)) ⟨by decide, by decide⟩ rcv_M hw rfl hl.1 (Nat.le_of_ble_eq_true rfl) d_M_times_174 rfl rfl ⟨Nat.zero_le _, Nat.zero_le _⟩ (fun M1 H locs hp hw => ?_)
              rw [upA_s, hVr, mul_abs] at hp
              exact kr _ _ _ _ _ d_M_times_177 hw ⟨hp.1, hp.2.1⟩
            · refine sy_lconst (z := 0) X d_M_times_53 (by decide) ?_
              refine sy_lstore (lv1 := [(6, .long (jI 0)), (0, .ref (ad 0)), (1, .int (iI ((z : Nat) : Int))), (2, .int (iI ((x : Nat) : Int))), (3, .int (iI ((y : Nat) : Int))), (4, .int (iI ((ux : Int) + (uy : Int)))), (5, .int (iI ((i : Nat) : Int)))]) X d_M_times_54 hl (by decide) rfl (fun ls hl => ?_)
              refine sy_iconst X d_M_times_56 ?_
              refine sy_istore (lv1 := [(8, .int (iI 0)), (6, .long (jI 0)), (0, .ref (ad 0)), (1, .int (iI ((z : Nat) : Int))), (2, .int (iI ((x : Nat) : Int))), (3, .int (iI ((y : Nat) : Int))), (4, .int (iI ((ux : Int) + (uy : Int)))), (5, .int (iI ((i : Nat) : Int)))]) X d_M_times_57 hl (by decide) rfl (fun ls hl => ?_)
              have keyI : ∀ (n : Nat) (j : Nat) (r1 : Nat → Int) (cy : Int) (H : Heap) (locs : List Loc) (ls : Array Slot), j ≤ uy → uy < j + n → Dg r1 (ux + uy) → 0 ≤ cy ∧ cy < 65536 → vl r1 (ux + uy) + cy * 65536 ^ (i + j) = vl r (ux + uy) + dgt M x i * vl (dgt M y) j * 65536 ^ i → (∀ t, i + uy ≤ t → t < ux + uy → r1 t = 0) → HW D A s.heap (wM ad cs (upA M 4 r1)) H locs → lv_has ls 9 [(0, .ref (ad 0)), (1, .int (iI ((z : Nat) : Int))), (2, .int (iI ((x : Nat) : Int))), (3, .int (iI ((y : Nat) : Int))), (4, .int (iI ((ux : Int) + (uy : Int)))), (5, .int (iI ((i : Nat) : Int))), (6, .long (jI cy)), (8, .int (iI ((j : Nat) : Int)))] → W p l e (rm 2) s m args below meth c H locs 0 0 Q (F0 m 59 ls []) := by
                intro n
                induction n with
                | zero =>
                  intro j r1 cy H locs ls f1 f2 f3 f4 f5 f6 hw hl
                  exfalso; omega
                | succ n ih_keyI =>
                  intro j r1 cy H locs ls f1 f2 f3 f4 f5 f6 hw hl
                  refine sy_iload X d_M_times_59 hl 7 rfl ?_
                  refine sy_aload_n X d_M_times_61 hl 0 rfl ?_
                  refine m_get X hw 1 (by decide) rfl (tt_of k510 rfl) d_M_times_62 ?_
                  refine sy_iload_n X d_M_times_65 hl 3 rfl ?_
                  refine m_ald X hw 2 y (by decide) (by omega) (by simp only [szM]; omega) (uy : Int) huy d_M_times_66 ?_
                  refine sy_icmp_ge (tgt := 134) X d_M_times_67 (by decide) ⟨by omega, by omega⟩ ⟨by omega, by omega⟩ (fun c3 => ?_) (fun c3 => ?_)
                  · refine sy_aload_n X d_M_times_134 hl 0 rfl ?_
                    refine m_get X hw 3 (by decide) rfl (tt_of k512 rfl) d_M_times_135 ?_
                    refine sy_iload X d_M_times_138 hl 5 rfl ?_
                    refine sy_aload_n X d_M_times_140 hl 0 rfl ?_
                    refine m_get X hw 1 (by decide) rfl (tt_of k510 rfl) d_M_times_141 ?_
                    refine sy_iload_n X d_M_times_144 hl 3 rfl ?_
                    refine m_ald X hw 2 y (by decide) (by omega) (by simp only [szM]; omega) (uy : Int) huy d_M_times_145 ?_
                    refine sy_iadd X d_M_times_146 ?_
                    refine sy_lload X d_M_times_147 hl 6 rfl ?_
                    refine sy_l2i X d_M_times_149 ?_
                    refine m_ast X hw 4 (i + uy) (by decide) (by omega) (by simp only [szM]; omega) d_M_times_150 (fun H locs hw => ?_)
                    rw [up2_upA] at hw
                    obtain ⟨r1, er1⟩ : ∃ g, g = up1 r1 (i + uy) cy := ⟨_, rfl⟩
                    rw [← er1] at hw
                    have hj : j = uy := by omega
                    rw [hj] at f5
                    have hD2 : Dg r1 (ux + uy) := by rw [er1]; exact dg_upd f3 f4.1 f4.2
                    have hV2 : vl r1 (ux + uy) = vl (dgt M x) (i + 1) * ((N y).natAbs : Int) := by
                      rw [er1, vl_upd _ (by omega), f6 (i + uy) (by omega) (by omega), Int.sub_zero, f5, g4, hvy]; simp only [vl]; grind
                    have hZ2 : ∀ t, i + 1 + uy ≤ t → t < ux + uy → r1 t = 0 := by
                      rw [er1]; intro t h1 h2; rw [up1_n _ (by omega)]; exact f6 t (by omega) h2
                    refine sy_iinc (lv1 := [(5, .int (iI ((i + 1 : Nat) : Int))), (0, .ref (ad 0)), (1, .int (iI ((z : Nat) : Int))), (2, .int (iI ((x : Nat) : Int))), (3, .int (iI ((y : Nat) : Int))), (4, .int (iI ((ux : Int) + (uy : Int)))), (6, .long (jI cy)), (8, .int (iI ((j : Nat) : Int)))]) X d_M_times_151 hl 5 rfl (by omega) (by decide) rfl (fun ls hl => ?_)
                    refine sy_goto (tgt := 42) X d_M_times_154 (by decide) ?_
                    exact ih_keyO (i + 1) r1 H locs ls (by omega) (by omega) hD2 hV2 hZ2 hw (lv_sub hl [1, 2, 3, 4, 5, 0] rfl)
                  · have hbx := hdx (i + 1) i (by omega)
                    have hby := hdy (j + 1) j (by omega)
                    have hbr := f3 (i + j) (by omega)
                    have hpr : 0 ≤ dgt M x i * dgt M y j ∧ dgt M x i * dgt M y j ≤ 65535 * 65535 := ⟨Int.mul_nonneg hbx.1 hby.1, Int.mul_le_mul (by omega) (by omega) hby.1 (by decide)⟩
                    refine sy_lload X d_M_times_70 hl 6 rfl ?_
                    refine sy_aload_n X d_M_times_72 hl 0 rfl ?_
                    refine m_get X hw 3 (by decide) rfl (tt_of k512 rfl) d_M_times_73 ?_
                    refine sy_iload X d_M_times_76 hl 5 rfl ?_
                    refine sy_iload X d_M_times_78 hl 7 rfl ?_
                    refine sy_iadd X d_M_times_80 ?_
                    refine m_ald X hw 4 (i + j) (by decide) (by omega) (by simp only [szM]; omega) (r1 (i + j)) rfl d_M_times_81 ?_
                    refine sy_i2l X d_M_times_82 ⟨by omega, by omega⟩ ?_
                    refine sy_ladd X d_M_times_83 ?_
                    refine sy_aload_n X d_M_times_84 hl 0 rfl ?_
                    refine sy_iload_n X d_M_times_85 hl 2 rfl ?_
                    refine sy_iload X d_M_times_86 hl 5 rfl ?_
                    refine call_Vi (Xs := []) (b := ad 0) (As := [.int (iI ((x : Nat) : Int)), .int (iI ((i : Nat) : Int))]) (rest := [.long (jI (cy + (r1 (i + j))))]) X lk_M_40 (c_M_digitOfR l D cs ad M r1 x i (by omega) (by omega) hWf) ⟨by decide, by decide⟩ rcv_M hw rfl hl.1 (Nat.le_of_ble_eq_true rfl) d_M_times_88 rfl rfl ⟨Nat.zero_le _, Nat.zero_le _⟩ (fun _ H locs _ hw => ?_)
                    refine sy_i2l X d_M_times_91 ⟨by omega, by omega⟩ ?_
                    refine sy_aload_n X d_M_times_92 hl 0 rfl ?_
                    refine sy_iload_n X d_M_times_93 hl 3 rfl ?_
                    refine sy_iload X d_M_times_94 hl 7 rfl ?_
                    refine call_Vi (Xs := []) (b := ad 0) (As := [.int (iI ((y : Nat) : Int)), .int (iI ((j : Nat) : Int))]) (rest := [.long (jI (dgt M x i)), .long (jI (cy + (r1 (i + j))))]) X lk_M_40 (c_M_digitOfR l D cs ad M r1 y j (by omega) (by omega) hWf) ⟨by decide, by decide⟩ rcv_M hw rfl hl.1 (Nat.le_of_ble_eq_true rfl) d_M_times_96 rfl rfl ⟨Nat.zero_le _, Nat.zero_le _⟩ (fun _ H locs _ hw => ?_)
                    refine sy_i2l X d_M_times_99 ⟨by omega, by omega⟩ ?_
                    refine sy_lmul X d_M_times_100 ?_
                    refine sy_ladd X d_M_times_101 ?_
                    refine sy_lstore (lv1 := [(6, .long (jI ((cy + (r1 (i + j))) + ((dgt M x i) * (dgt M y j))))), (0, .ref (ad 0)), (1, .int (iI ((z : Nat) : Int))), (2, .int (iI ((x : Nat) : Int))), (3, .int (iI ((y : Nat) : Int))), (4, .int (iI ((ux : Int) + (uy : Int)))), (5, .int (iI ((i : Nat) : Int))), (8, .int (iI ((j : Nat) : Int)))]) X d_M_times_102 hl (by decide) rfl (fun ls hl => ?_)
                    refine sy_aload_n X d_M_times_104 hl 1 rfl ?_
                    refine m_get X hw 3 (by decide) rfl (tt_of k512 rfl) d_M_times_105 ?_
                    refine sy_iload X d_M_times_108 hl 6 rfl ?_
                    refine sy_iload X d_M_times_110 hl 7 rfl ?_
                    refine sy_iadd X d_M_times_112 ?_
                    refine sy_lload X d_M_times_113 hl 0 rfl ?_
                    refine sy_ldc2 (z := 65535) X (tt_of k500 rfl) d_M_times_115 (by decide) ?_
                    refine sy_land X 16 65536 d_M_times_118 (by decide) (by decide) (by decide) ?_
                    refine sy_l2i X d_M_times_119 ?_
                    refine m_ast X hw 4 (i + j) (by decide) (by omega) (by simp only [szM]; omega) d_M_times_120 (fun H locs hw => ?_)
                    rw [up2_upA] at hw
                    obtain ⟨r2, er2⟩ : ∃ g, g = up1 r1 (i + j) (((cy + (r1 (i + j))) + ((dgt M x i) * (dgt M y j))) % 65536) := ⟨_, rfl⟩
                    rw [← er2] at hw
                    refine sy_lload X d_M_times_121 hl 0 rfl ?_
                    refine sy_bipush X d_M_times_123 (by decide) ?_
                    refine sy_lshr X 65536 d_M_times_125 ⟨by omega, by omega⟩ (by omega) (by omega) (by decide) ?_
                    refine sy_lstore (lv1 := [(6, .long (jI (((cy + (r1 (i + j))) + ((dgt M x i) * (dgt M y j))) / 65536))), (0, .ref (ad 0)), (1, .int (iI ((z : Nat) : Int))), (2, .int (iI ((x : Nat) : Int))), (3, .int (iI ((y : Nat) : Int))), (4, .int (iI ((ux : Int) + (uy : Int)))), (5, .int (iI ((i : Nat) : Int))), (8, .int (iI ((j : Nat) : Int)))]) X d_M_times_126 hl (by decide) rfl (fun ls hl => ?_)
                    refine sy_iinc (lv1 := [(8, .int (iI ((j + 1 : Nat) : Int))), (6, .long (jI (((cy + (r1 (i + j))) + ((dgt M x i) * (dgt M y j))) / 65536))), (0, .ref (ad 0)), (1, .int (iI ((z : Nat) : Int))), (2, .int (iI ((x : Nat) : Int))), (3, .int (iI ((y : Nat) : Int))), (4, .int (iI ((ux : Int) + (uy : Int)))), (5, .int (iI ((i : Nat) : Int)))]) X d_M_times_128 hl 7 rfl (by omega) (by decide) rfl (fun ls hl => ?_)
                    refine sy_goto (tgt := 59) X d_M_times_131 (by decide) ?_
                    exact ih_keyI (j + 1) r2 _ H locs ls (by omega) (by omega) (by rw [er2]; exact dg_upd f3 (md0 _).1 (md0 _).2) ⟨by omega, by omega⟩ (by rw [er2, vl_upd _ (by omega)]; exact times_step f5) (by rw [er2]; intro t h1 h2; rw [up1_n _ (by omega)]; exact f6 t h1 h2) hw (lv_sub hl [2, 3, 4, 5, 6, 7, 1, 0] rfl)
              exact keyI (uy + 1) 0 r 0 H locs ls (by omega) (by omega) g3 (by omega) (by simp [vl]) g5 hw (lv_sub hl [2, 3, 4, 5, 6, 7, 1, 0] rfl)
        exact keyO (ux + 1) 0 r H locs ls (by omega) (by omega) (fun j hj => by rw [h3 j (by omega)]; decide) (by rw [vl_zero (u := 0) (by omega) (fun j _ hj => h3 j (by omega))]; simp [vl]) (fun j _ hj => h3 j (by omega)) hw (lv_sub hl [1, 2, 3, 4, 5, 0] rfl)
      · refine sy_aload_n X d_M_times_25 hl 0 rfl ?_
        refine m_get X hw 3 (by decide) rfl (tt_of k512 rfl) d_M_times_26 ?_
        refine sy_iload X d_M_times_29 hl 5 rfl ?_
        refine sy_iconst X d_M_times_31 ?_
        refine m_ast X hw 4 k (by decide) (by omega) (by simp only [szM]; omega) d_M_times_32 (fun H locs hw => ?_)
        rw [up2_upA] at hw
        obtain ⟨r3, er3⟩ : ∃ g, g = up1 r k 0 := ⟨_, rfl⟩
        rw [← er3] at hw
        refine sy_iinc (lv1 := [(5, .int (iI ((k + 1 : Nat) : Int))), (0, .ref (ad 0)), (1, .int (iI ((z : Nat) : Int))), (2, .int (iI ((x : Nat) : Int))), (3, .int (iI ((y : Nat) : Int))), (4, .int (iI ((ux : Int) + (uy : Int))))]) X d_M_times_33 hl 5 rfl (by omega) (by decide) rfl (fun ls hl => ?_)
        refine sy_goto (tgt := 18) X d_M_times_36 (by decide) ?_
        exact ih_key0 (k + 1) r3 H locs ls (by omega) (by omega) (by rw [er3]; exact zero_up h3) hw (lv_sub hl [1, 2, 3, 4, 5, 0] rfl)
  rw [eM] at hw
  exact key0 (ux + uy + 1) 0 (M 4) H locs ls (by omega) (by omega) (fun j hj => by omega) hw (lv_sub hl [2, 3, 4, 5, 1, 0] rfl)
