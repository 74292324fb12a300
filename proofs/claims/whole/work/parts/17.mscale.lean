theorem sc_sgn (a v : Int) : (if v < 0 then -a.sign else if 0 < v then a.sign else 0) = (a * v).sign := by
  rw [Int.sign_mul]
  rcases sgn_1 v with ⟨h1, h2⟩ | ⟨h1, h2⟩ | ⟨h1, h2⟩ <;> rw [h1]
  · rw [if_neg (by omega), if_pos h2]; omega
  · rw [if_pos h2]; omega
  · rw [if_neg (by omega), if_neg (by omega)]; omega
theorem sc_step {VR cy f dk VX P : Int} (h : VR + cy * P = f * VX) : (VR + (cy + f * dk) % 65536 * P) + (cy + f * dk) / 65536 * (P * 65536) = f * (VX + dk * P) := by
  have := add_step (c := cy + f * dk) (d := f * dk) rfl h
  rw [this]; grind
theorem sc_end {r : Nat → Int} {u : Nat} {cy T : Int} (hd : Dg r u) (h0 : 0 ≤ cy) (h1 : cy ≤ 2147483648) (h : vl r u + cy * 65536 ^ u = T) : Dg (up1 (up1 r u (cy % 65536)) (u + 1) (cy / 65536)) (u + 2) ∧ vl (up1 (up1 r u (cy % 65536)) (u + 1) (cy / 65536)) (u + 2) = T := by
  refine ⟨dg_up1 (dg_up1 hd (md0 _).1 (md0 _).2) (by omega) (by omega), ?_⟩
  rw [vl_up1, vl_up1, ← h, B_succ]
  have := Int.emod_add_mul_ediv cy 65536
  generalize cy % 65536 = x at *
  generalize cy / 65536 = y at *
  subst this; grind
set_option maxRecDepth 100000 in
set_option maxHeartbeats 4000000 in
theorem c_M_scale (l : Launch) (D : va_G) (cs : Nat → ClassId) (ad : Nat → Nat) (M : Nat → Nat → Int) (N : Nat → Int) (z x : Nat) (v : Int) (hz : z < 120) (hx : x < 120) (hv : R31 v) (hR : Rep M N) (hb : ((N x * v).natAbs : Int) < 65536 ^ 110) : Ct (S := Nat → Nat → Int) l D (tyL cs) y_M_scale b_M_scale 11 none (rm 2) [.ref (ad 0), .int (iI ((z : Nat) : Int)), .int (iI ((x : Nat) : Int)), .int (iI v)] (wM ad cs M) (fun M1 => Rep M1 (up1 N z (N x * v)) ∧ Sm M M1) (fun _ => none) (fun M1 => wM ad cs M1) := by
  refine Ct.introV (by decide) (Nat.le_of_ble_eq_true rfl) (fun _ => rfl) ?_
  intro p e s m below meth c A args Q H locs X hnm hw kr ls hl
  have X : CX D (tyL cs) R_M b_M_scale 11 p m c s args := X
  have hl : lv_has ls 11 [(0, .ref (ad 0)), (1, .int (iI ((z : Nat) : Int))), (2, .int (iI ((x : Nat) : Int))), (3, .int (iI v))] := hl
  have hv1 := hv.1
  have hv2 := hv.2
  have hWf := hR.wf
  obtain ⟨ux, hux, hux1, hdx, hvx, -, -, hsx⟩ := (hR x hx).dig
  have hvx := hvx ux (by omega)
  have hR4 : ∀ r, Rep (upA M 4 r) N := fun r z hz => hR z hz
  have hsgx := sgnR (N x)
  have hsgm := sgnR (N x * v)
  obtain ⟨f, hf⟩ : ∃ f : Int, f = (v.natAbs : Int) := ⟨_, rfl⟩
  have hsc := sc_sgn (N x) v
  have km1 : ∀ (H : Heap) (locs : List Loc), HW D A s.heap (wM ad cs M) H locs → W p l e (rm 2) s m args below meth c H locs 0 0 Q (F0 m 12 ls [.long (jI f)]) := by
    intro H locs hw
    refine sy_lstore (lv1 := [(4, .long (jI f)), (0, .ref (ad 0)), (1, .int (iI ((z : Nat) : Int))), (2, .int (iI ((x : Nat) : Int))), (3, .int (iI v))]) X d_M_scale_12 hl (by decide) rfl (fun ls hl => ?_)
    have km2 : ∀ (H : Heap) (locs : List Loc), HW D A s.heap (wM ad cs M) H locs → W p l e (rm 2) s m args below meth c H locs 0 0 Q (F0 m 42 ls [.int (iI ((N x * v).sign))]) := by
      intro H locs hw
      refine sy_istore (lv1 := [(6, .int (iI ((N x * v).sign))), (4, .long (jI f)), (0, .ref (ad 0)), (1, .int (iI ((z : Nat) : Int))), (2, .int (iI ((x : Nat) : Int))), (3, .int (iI v))]) X d_M_scale_42 hl (by decide) rfl (fun ls hl => ?_)
      refine sy_aload_n X d_M_scale_44 hl 2 rfl ?_
      refine m_get X hw 1 (by decide) rfl (tt_of k510 rfl) d_M_scale_45 ?_
      refine sy_iload_n X d_M_scale_48 hl 4 rfl ?_
      refine m_ald X hw 2 x (by decide) (by omega) (by simp only [szM]; omega) (ux : Int) hux d_M_scale_49 ?_
      refine sy_istore (lv1 := [(7, .int (iI (ux : Int))), (6, .int (iI ((N x * v).sign))), (4, .long (jI f)), (0, .ref (ad 0)), (1, .int (iI ((z : Nat) : Int))), (2, .int (iI ((x : Nat) : Int))), (3, .int (iI v))]) X d_M_scale_50 hl (by decide) rfl (fun ls hl => ?_)
      have eM : M = upA M 4 (M 4) := (upA_self M 4).symm
      refine sy_lconst (z := 0) X d_M_scale_52 (by decide) ?_
      refine sy_lstore (lv1 := [(8, .long (jI 0)), (7, .int (iI (ux : Int))), (6, .int (iI ((N x * v).sign))), (4, .long (jI f)), (0, .ref (ad 0)), (1, .int (iI ((z : Nat) : Int))), (2, .int (iI ((x : Nat) : Int))), (3, .int (iI v))]) X d_M_scale_53 hl (by decide) rfl (fun ls hl => ?_)
      refine sy_iconst X d_M_scale_55 ?_
      refine sy_istore (lv1 := [(10, .int (iI 0)), (8, .long (jI 0)), (7, .int (iI (ux : Int))), (6, .int (iI ((N x * v).sign))), (4, .long (jI f)), (0, .ref (ad 0)), (1, .int (iI ((z : Nat) : Int))), (2, .int (iI ((x : Nat) : Int))), (3, .int (iI v))]) X d_M_scale_56 hl (by decide) rfl (fun ls hl => ?_)
      have key : ∀ (n : Nat) (k : Nat) (r : Nat → Int) (cy : Int) (H : Heap) (locs : List Loc) (ls : Array Slot), k ≤ ux → ux < k + n → Dg r k → 0 ≤ cy ∧ cy ≤ f → vl r k + cy * 65536 ^ k = f * vl (dgt M x) k → HW D A s.heap (wM ad cs (upA M 4 r)) H locs → lv_has ls 11 [(0, .ref (ad 0)), (1, .int (iI ((z : Nat) : Int))), (2, .int (iI ((x : Nat) : Int))), (3, .int (iI v)), (4, .long (jI f)), (6, .int (iI ((N x * v).sign))), (7, .int (iI (ux : Int))), (8, .long (jI cy)), (10, .int (iI ((k : Nat) : Int)))] → W p l e (rm 2) s m args below meth c H locs 0 0 Q (F0 m 58 ls []) := by
        intro n
        induction n with
        | zero =>
          intro k r cy H locs ls h1 h2 h3 h4 h5 hw hl
          exfalso; omega
        | succ n ih_key =>
          intro k r cy H locs ls h1 h2 h3 h4 h5 hw hl
          refine sy_iload X d_M_scale_58 hl 8 rfl ?_
          refine sy_iload X d_M_scale_60 hl 6 rfl ?_
          refine sy_icmp_ge (tgt := 108) X d_M_scale_62 (by decide) ⟨by omega, by omega⟩ ⟨by omega, by omega⟩ (fun c3 => ?_) (fun c3 => ?_)
          · refine sy_aload_n X d_M_scale_108 hl 0 rfl ?_
            refine m_get X hw 3 (by decide) rfl (tt_of k512 rfl) d_M_scale_109 ?_
            refine sy_iload X d_M_scale_112 hl 6 rfl ?_
            refine sy_lload X d_M_scale_114 hl 7 rfl ?_
            refine sy_ldc2 (z := 65535) X (tt_of k500 rfl) d_M_scale_116 (by decide) ?_
            refine sy_land X 16 65536 d_M_scale_119 (by decide) (by decide) (by decide) ?_
            refine sy_l2i X d_M_scale_120 ?_
            refine m_ast X hw 4 ux (by decide) (by omega) (by simp only [szM]; omega) d_M_scale_121 (fun H locs hw => ?_)
            rw [up2_upA] at hw
            obtain ⟨r1, er1⟩ : ∃ g, g = up1 r ux (cy % 65536) := ⟨_, rfl⟩
            rw [← er1] at hw
            refine sy_aload_n X d_M_scale_122 hl 0 rfl ?_
            refine m_get X hw 3 (by decide) rfl (tt_of k512 rfl) d_M_scale_123 ?_
            refine sy_iload X d_M_scale_126 hl 6 rfl ?_
            refine sy_iconst X d_M_scale_128 ?_
            refine sy_iadd X d_M_scale_129 ?_
            refine sy_lload X d_M_scale_130 hl 7 rfl ?_
            refine sy_bipush X d_M_scale_132 (by decide) ?_
            refine sy_lshr X 65536 d_M_scale_134 ⟨by omega, by omega⟩ (by omega) (by omega) (by decide) ?_
            refine sy_l2i X d_M_scale_135 ?_
            refine m_ast X hw 4 (ux + 1) (by decide) (by omega) (by simp only [szM]; omega) d_M_scale_136 (fun H locs hw => ?_)
            rw [up2_upA] at hw
            obtain ⟨r2, er2⟩ : ∃ g, g = up1 r1 (ux + 1) (cy / 65536) := ⟨_, rfl⟩
            rw [← er2] at hw
            have hk : k = ux := by omega
            rw [hk, hvx] at h5
            rw [hk] at h3
            have hE := sc_end h3 h4.1 (by omega) h5
            have hDr : Dg r2 (ux + 2) := by rw [er2, er1]; exact hE.1
            have hVr : vl r2 (ux + 2) = f * ((N x).natAbs : Int) := by rw [er2, er1]; exact hE.2
            have hab : f * ((N x).natAbs : Int) = ((N x * v).natAbs : Int) := by rw [hf, Int.natAbs_mul, Int.mul_comm]; simp
            have hBr : f * ((N x).natAbs : Int) < 65536 ^ 110 := by rw [hab]; exact hb
            refine sy_aload_n X d_M_scale_137 hl 0 rfl ?_
            refine sy_iload_n X d_M_scale_138 hl 1 rfl ?_
            refine sy_iload X d_M_scale_139 hl 5 rfl ?_
            refine sy_if_ne (tgt := 148) X d_M_scale_141 (by decide) ⟨by omega, by omega⟩ (fun c4 => ?_) (fun c4 => ?_)
            · refine sy_iload X d_M_scale_148 hl 6 rfl ?_
              refine sy_iconst X d_M_scale_150 ?_
              refine sy_iadd X d_M_scale_151 ?_
              refine sy_iload X d_M_scale_152 hl 5 rfl ?_
              refine call_Vv (Xs := []) (b := ad 0) (As := [.int (iI ((z : Nat) : Int)), .int (iI ((ux : Int) + 2)), .int (iI ((N x * v).sign))]) (rest := []) X lk_M_45 (c_M_store l D cs ad (upA M 4 r2) N z (ux + 2) ((N x * v).sign) (by omega) (by omega) ⟨by omega, by omega⟩ (hR4 r2) (by rw [upA_s]; exact hDr) (by rw [upA_s, hVr]; exact hBr) (by omega)) ⟨by decide, by decide⟩ rcv_M hw rfl hl.1 (Nat.le_of_ble_eq_true rfl) d_M_scale_154 rfl rfl ⟨Nat.zero_le _, Nat.zero_le _⟩ (fun M1 H locs hp hw => ?_)
              rw [upA_s, hVr, hab, sgn_abs] at hp
              exact kr _ _ _ _ _ d_M_scale_157 hw ⟨hp.1, hp.2.1⟩
            · refine sy_iconst X d_M_scale_144 ?_
              refine sy_goto (tgt := 152) X d_M_scale_145 (by decide) ?_
              refine sy_iload X d_M_scale_152 hl 5 rfl ?_
              refine call_Vv (Xs := []) (b := ad 0) (As := [.int (iI ((z : Nat) : Int)), .int (iI 0), .int (iI ((N x * v).sign))]) (rest := []) X lk_M_45 (c_M_store l D cs ad (upA M 4 r2) N z 0 ((N x * v).sign) (by omega) (by omega) ⟨by omega, by omega⟩ (hR4 r2) (fun k hk => by omega) (B_pos 110) (Or.inr (Or.inr rfl))) ⟨by decide, by decide⟩ rcv_M hw rfl hl.1 (Nat.le_of_ble_eq_true rfl) d_M_scale_154 rfl rfl ⟨Nat.zero_le _, Nat.zero_le _⟩ (fun M1 H locs hp hw => ?_)
              have h0 : N x * v = 0 := by rcases sgn_1 (N x * v) with ⟨g1, g2⟩ | ⟨g1, g2⟩ | ⟨g1, g2⟩ <;> omega
              rw [show (N x * v).sign * vl (upA M 4 r2 4) 0 = N x * v by rw [h0]; rfl] at hp
              exact kr _ _ _ _ _ d_M_scale_157 hw ⟨hp.1, hp.2.1⟩
          · have hbx := hdx (k + 1) k (by omega)
            have hpr : 0 ≤ f * dgt M x k ∧ f * dgt M x k ≤ f * 65535 := ⟨Int.mul_nonneg (by omega) hbx.1, Int.mul_le_mul_of_nonneg_left (by omega) (by omega)⟩
            refine sy_lload X d_M_scale_65 hl 7 rfl ?_
            refine sy_lload X d_M_scale_67 hl 4 rfl ?_
            refine sy_aload_n X d_M_scale_69 hl 0 rfl ?_
            refine sy_iload_n X d_M_scale_70 hl 2 rfl ?_
            refine sy_iload X d_M_scale_71 hl 8 rfl ?_
            refine call_Vi (Xs := []) (b := ad 0) (As := [.int (iI ((x : Nat) : Int)), .int (iI ((k : Nat) : Int))]) (rest := [.long (jI f), .long (jI cy)]) X lk_M_40 (c_M_digitOfR l D cs ad M r x k (by omega) (by omega) hWf) ⟨by decide, by decide⟩ rcv_M hw rfl hl.1 (Nat.le_of_ble_eq_true rfl) d_M_scale_73 rfl rfl ⟨Nat.zero_le _, Nat.zero_le _⟩ (fun _ H locs _ hw => ?_)
            refine sy_i2l X d_M_scale_76 ⟨by omega, by omega⟩ ?_
            refine sy_lmul X d_M_scale_77 ?_
            refine sy_ladd X d_M_scale_78 ?_
            refine sy_lstore (lv1 := [(8, .long (jI (cy + (f * (dgt M x k))))), (0, .ref (ad 0)), (1, .int (iI ((z : Nat) : Int))), (2, .int (iI ((x : Nat) : Int))), (3, .int (iI v)), (4, .long (jI f)), (6, .int (iI ((N x * v).sign))), (7, .int (iI (ux : Int))), (10, .int (iI ((k : Nat) : Int)))]) X d_M_scale_79 hl (by decide) rfl (fun ls hl => ?_)
            refine sy_aload_n X d_M_scale_81 hl 1 rfl ?_
            refine m_get X hw 3 (by decide) rfl (tt_of k512 rfl) d_M_scale_82 ?_
            refine sy_iload X d_M_scale_85 hl 8 rfl ?_
            refine sy_lload X d_M_scale_87 hl 0 rfl ?_
            refine sy_ldc2 (z := 65535) X (tt_of k500 rfl) d_M_scale_89 (by decide) ?_
            refine sy_land X 16 65536 d_M_scale_92 (by decide) (by decide) (by decide) ?_
            refine sy_l2i X d_M_scale_93 ?_
            refine m_ast X hw 4 k (by decide) (by omega) (by simp only [szM]; omega) d_M_scale_94 (fun H locs hw => ?_)
            rw [up2_upA] at hw
            obtain ⟨r3, er3⟩ : ∃ g, g = up1 r k ((cy + (f * (dgt M x k))) % 65536) := ⟨_, rfl⟩
            rw [← er3] at hw
            refine sy_lload X d_M_scale_95 hl 0 rfl ?_
            refine sy_bipush X d_M_scale_97 (by decide) ?_
            refine sy_lshr X 65536 d_M_scale_99 ⟨by omega, by omega⟩ (by omega) (by omega) (by decide) ?_
            refine sy_lstore (lv1 := [(8, .long (jI ((cy + (f * (dgt M x k))) / 65536))), (0, .ref (ad 0)), (1, .int (iI ((z : Nat) : Int))), (2, .int (iI ((x : Nat) : Int))), (3, .int (iI v)), (4, .long (jI f)), (6, .int (iI ((N x * v).sign))), (7, .int (iI (ux : Int))), (10, .int (iI ((k : Nat) : Int)))]) X d_M_scale_100 hl (by decide) rfl (fun ls hl => ?_)
            refine sy_iinc (lv1 := [(10, .int (iI ((k + 1 : Nat) : Int))), (8, .long (jI ((cy + (f * (dgt M x k))) / 65536))), (0, .ref (ad 0)), (1, .int (iI ((z : Nat) : Int))), (2, .int (iI ((x : Nat) : Int))), (3, .int (iI v)), (4, .long (jI f)), (6, .int (iI ((N x * v).sign))), (7, .int (iI (ux : Int)))]) X d_M_scale_102 hl 8 rfl (by omega) (by decide) rfl (fun ls hl => ?_)
            refine sy_goto (tgt := 58) X d_M_scale_105 (by decide) ?_
            exact ih_key (k + 1) r3 _ H locs ls (by omega) (by omega) (by rw [er3]; exact dg_up1 h3 (md0 _).1 (md0 _).2) ⟨by omega, by omega⟩ (by rw [er3, vl_up1, B_succ]; exact sc_step h5) hw (lv_sub hl [2, 3, 4, 5, 6, 7, 8, 1, 0] rfl)
      rw [eM] at hw
      exact key (ux + 1) 0 (M 4) 0 H locs ls (by omega) (by omega) (fun k hk => by omega) (by omega) (by simp [vl]) hw (lv_sub hl [5, 6, 7, 8, 4, 3, 2, 1, 0] rfl)
    refine sy_iload_n X d_M_scale_14 hl 4 rfl ?_
    refine sy_if_ge (tgt := 28) X d_M_scale_15 (by decide) ⟨by omega, by omega⟩ (fun c5 => ?_) (fun c5 => ?_)
    · refine sy_iload_n X d_M_scale_28 hl 4 rfl ?_
      refine sy_if_le (tgt := 41) X d_M_scale_29 (by decide) ⟨by omega, by omega⟩ (fun c6 => ?_) (fun c6 => ?_)
      · refine sy_iconst X d_M_scale_41 ?_
        exact W_topi (by rw [← hsc]; (repeat' split) <;> omega) (km2 H locs hw)
      · refine sy_aload_n X d_M_scale_32 hl 1 rfl ?_
        refine m_get X hw 2 (by decide) rfl (tt_of k511 rfl) d_M_scale_33 ?_
        refine sy_iload_n X d_M_scale_36 hl 3 rfl ?_
        refine m_ald X hw 3 x (by decide) (by omega) (by simp only [szM]; omega) ((N x).sign) hsx d_M_scale_37 ?_
        refine sy_goto (tgt := 42) X d_M_scale_38 (by decide) ?_
        exact W_topi (by rw [← hsc]; (repeat' split) <;> omega) (km2 H locs hw)
    · refine sy_aload_n X d_M_scale_18 hl 1 rfl ?_
      refine m_get X hw 2 (by decide) rfl (tt_of k511 rfl) d_M_scale_19 ?_
      refine sy_iload_n X d_M_scale_22 hl 3 rfl ?_
      refine m_ald X hw 3 x (by decide) (by omega) (by simp only [szM]; omega) ((N x).sign) hsx d_M_scale_23 ?_
      refine sy_ineg X d_M_scale_24 ?_
      refine sy_goto (tgt := 42) X d_M_scale_25 (by decide) ?_
      exact W_topi (by rw [← hsc]; (repeat' split) <;> omega) (km2 H locs hw)
  refine sy_iload_n X d_M_scale_0 hl 3 rfl ?_
  refine sy_if_ge (tgt := 10) X d_M_scale_1 (by decide) ⟨by omega, by omega⟩ (fun c7 => ?_) (fun c7 => ?_)
  · refine sy_iload_n X d_M_scale_10 hl 3 rfl ?_
    refine sy_i2l X d_M_scale_11 ⟨by omega, by omega⟩ ?_
    exact W_topl (by omega) (km1 H locs hw)
  · refine sy_iload_n X d_M_scale_4 hl 3 rfl ?_
    refine sy_i2l X d_M_scale_5 ⟨by omega, by omega⟩ ?_
    refine sy_lneg X d_M_scale_6 ?_
    refine sy_goto (tgt := 12) X d_M_scale_7 (by decide) ?_
    exact W_topl (by omega) (km1 H locs hw)
set_option maxRecDepth 100000 in
set_option maxHeartbeats 4000000 in
theorem c_M_gain (l : Launch) (D : va_G) (cs : Nat → ClassId) (ad : Nat → Nat) (M : Nat → Nat → Int) (N : Nat → Int) (z x : Nat) (v : Int) (t : Nat) (hz : z < 120) (hx : x < 120) (ht : t < 120) (hzt : z ≠ t) (hv : R31 v) (hR : Rep M N) (hb : ((N x * v).natAbs : Int) < 65536 ^ 110) (hb2 : ((N z + N x * v).natAbs : Int) < 65536 ^ 110) : Ct (S := Nat → Nat → Int) l D (tyL cs) y_M_gain b_M_gain 5 none (rm 4) [.ref (ad 0), .int (iI ((z : Nat) : Int)), .int (iI ((x : Nat) : Int)), .int (iI v), .int (iI ((t : Nat) : Int))] (wM ad cs M) (fun M1 => Rep M1 (up1 (up1 N t (N x * v)) z (N z + N x * v)) ∧ Sm M M1) (fun _ => none) (fun M1 => wM ad cs M1) := by
  refine Ct.introV (by decide) (Nat.le_of_ble_eq_true rfl) (fun _ => rfl) ?_
  intro p e s m below meth c A args Q H locs X hnm hw kr ls hl
  have X : CX D (tyL cs) R_M b_M_gain 5 p m c s args := X
  have hl : lv_has ls 5 [(0, .ref (ad 0)), (1, .int (iI ((z : Nat) : Int))), (2, .int (iI ((x : Nat) : Int))), (3, .int (iI v)), (4, .int (iI ((t : Nat) : Int)))] := hl
  refine sy_aload_n X d_M_gain_0 hl 0 rfl ?_
  refine sy_iload X d_M_gain_1 hl 4 rfl ?_
  refine sy_iload_n X d_M_gain_3 hl 2 rfl ?_
  refine sy_iload_n X d_M_gain_4 hl 3 rfl ?_
  refine call_Vv (Xs := []) (b := ad 0) (As := [.int (iI ((t : Nat) : Int)), .int (iI ((x : Nat) : Int)), .int (iI v)]) (rest := []) X lk_M_52 (c_M_scale l D cs ad M N t x v ht hx hv hR hb) ⟨by decide, by decide⟩ rcv_M hw rfl hl.1 (Nat.le_of_ble_eq_true rfl) d_M_gain_5 rfl rfl ⟨Nat.zero_le _, Nat.zero_le _⟩ (fun M1 H locs hp1 hw => ?_)
  refine sy_aload_n X d_M_gain_8 hl 0 rfl ?_
  refine sy_iload_n X d_M_gain_9 hl 1 rfl ?_
  refine sy_iload_n X d_M_gain_10 hl 1 rfl ?_
  refine sy_iload X d_M_gain_11 hl 4 rfl ?_
  refine sy_iconst X d_M_gain_13 ?_
  have e1 : up1 N t (N x * v) z + 1 * up1 N t (N x * v) t = N z + N x * v := by rw [up1_s, up1_n _ hzt]; omega
  refine call_Vv (Xs := []) (b := ad 0) (As := [.int (iI ((z : Nat) : Int)), .int (iI ((z : Nat) : Int)), .int (iI ((t : Nat) : Int)), .int (iI 1)]) (rest := []) X lk_M_55 (c_M_sum l D cs ad M1 (up1 N t (N x * v)) z z t 1 hz hz ht (Or.inl rfl) hp1.1 (by rw [e1]; exact hb2)) ⟨by decide, by decide⟩ rcv_M hw rfl hl.1 (Nat.le_of_ble_eq_true rfl) d_M_gain_14 rfl rfl ⟨Nat.zero_le _, Nat.zero_le _⟩ (fun M2 H locs hp2 hw => ?_)
  rw [e1] at hp2
  exact kr _ _ _ _ _ d_M_gain_17 hw ⟨hp2.1, hp1.2.tr hp2.2⟩
set_option maxRecDepth 100000 in
set_option maxHeartbeats 4000000 in
theorem c_M_join (l : Launch) (D : va_G) (cs : Nat → ClassId) (ad : Nat → Nat) (M : Nat → Nat → Int) (N : Nat → Int) (z x y : Nat) (s0 : Int) (t : Nat) (hz : z < 120) (hx : x < 120) (hy : y < 120) (ht : t < 120) (hzt : z ≠ t) (hs0 : s0 = 1 ∨ s0 = -1) (hR : Rep M N) (hb : ((N x * N y).natAbs : Int) < 65536 ^ 110) (hb2 : ((N z + s0 * (N x * N y)).natAbs : Int) < 65536 ^ 110) : Ct (S := Nat → Nat → Int) l D (tyL cs) y_M_join b_M_join 6 none (rm 4) [.ref (ad 0), .int (iI ((z : Nat) : Int)), .int (iI ((x : Nat) : Int)), .int (iI ((y : Nat) : Int)), .int (iI s0), .int (iI ((t : Nat) : Int))] (wM ad cs M) (fun M1 => Rep M1 (up1 (up1 N t (N x * N y)) z (N z + s0 * (N x * N y))) ∧ Sm M M1) (fun _ => none) (fun M1 => wM ad cs M1) := by
  refine Ct.introV (by decide) (Nat.le_of_ble_eq_true rfl) (fun _ => rfl) ?_
  intro p e s m below meth c A args Q H locs X hnm hw kr ls hl
  have X : CX D (tyL cs) R_M b_M_join 6 p m c s args := X
  have hl : lv_has ls 6 [(0, .ref (ad 0)), (1, .int (iI ((z : Nat) : Int))), (2, .int (iI ((x : Nat) : Int))), (3, .int (iI ((y : Nat) : Int))), (4, .int (iI s0)), (5, .int (iI ((t : Nat) : Int)))] := hl
  refine sy_aload_n X d_M_join_0 hl 0 rfl ?_
  refine sy_iload X d_M_join_1 hl 5 rfl ?_
  refine sy_iload_n X d_M_join_3 hl 2 rfl ?_
  refine sy_iload_n X d_M_join_4 hl 3 rfl ?_
  refine call_Vv (Xs := []) (b := ad 0) (As := [.int (iI ((t : Nat) : Int)), .int (iI ((x : Nat) : Int)), .int (iI ((y : Nat) : Int))]) (rest := []) X lk_M_59 (c_M_times l D cs ad M N t x y ht hx hy hR hb) ⟨by decide, by decide⟩ rcv_M hw rfl hl.1 (Nat.le_of_ble_eq_true rfl) d_M_join_5 rfl rfl ⟨Nat.zero_le _, Nat.zero_le _⟩ (fun M1 H locs hp1 hw => ?_)
  refine sy_aload_n X d_M_join_8 hl 0 rfl ?_
  refine sy_iload_n X d_M_join_9 hl 1 rfl ?_
  refine sy_iload_n X d_M_join_10 hl 1 rfl ?_
  refine sy_iload X d_M_join_11 hl 5 rfl ?_
  refine sy_iload X d_M_join_13 hl 4 rfl ?_
  have e1 : up1 N t (N x * N y) z + s0 * up1 N t (N x * N y) t = N z + s0 * (N x * N y) := by rw [up1_s, up1_n _ hzt]
  refine call_Vv (Xs := []) (b := ad 0) (As := [.int (iI ((z : Nat) : Int)), .int (iI ((z : Nat) : Int)), .int (iI ((t : Nat) : Int)), .int (iI s0)]) (rest := []) X lk_M_55 (c_M_sum l D cs ad M1 (up1 N t (N x * N y)) z z t s0 hz hz ht hs0 hp1.1 (by rw [e1]; exact hb2)) ⟨by decide, by decide⟩ rcv_M hw rfl hl.1 (Nat.le_of_ble_eq_true rfl) d_M_join_15 rfl rfl ⟨Nat.zero_le _, Nat.zero_le _⟩ (fun M2 H locs hp2 hw => ?_)
  rw [e1] at hp2
  exact kr _ _ _ _ _ d_M_join_18 hw ⟨hp2.1, hp1.2.tr hp2.2⟩
