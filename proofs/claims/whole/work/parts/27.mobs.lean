def gW0 (u : Nat → Int) (h0 h1 : Int) : Int := u 2 * h0 + u 3 * h1
def gW1 (u : Nat → Int) (h0 h1 : Int) : Int := u 3 * h0 + u 4 * h1
def gS (u : Nat → Int) (h0 h1 r : Int) : Int := gW0 u h0 h1 * h0 + gW1 u h0 h1 * h1 + u 5 * r
def gY (u : Nat → Int) (h0 h1 z : Int) : Int := u 5 * z + u 0 * (-h0) + u 1 * (-h1)
/-- the six numbers behind an observation, before they are shrunk -/
def obsV (u : Nat → Int) (h0 h1 r z : Int) : Nat → Int := fun i => match i with
  | 0 => u 0 * gS u h0 h1 r + 1 * (gW0 u h0 h1 * gY u h0 h1 z)
  | 1 => u 1 * gS u h0 h1 r + 1 * (gW1 u h0 h1 * gY u h0 h1 z)
  | 2 => u 2 * gS u h0 h1 r + -1 * (gW0 u h0 h1 * gW0 u h0 h1)
  | 3 => u 3 * gS u h0 h1 r + -1 * (gW0 u h0 h1 * gW1 u h0 h1)
  | 4 => u 4 * gS u h0 h1 r + -1 * (gW1 u h0 h1 * gW1 u h0 h1)
  | _ => u 5 * gS u h0 h1 r
theorem gF_congr {a : Int} {f g : Nat → Int} : ∀ {k : Nat}, (∀ i, i < k → f i = g i) → gF a f k = gF a g k
  | 0, _ => rfl
  | k + 1, h => by simp only [gF]; rw [gF_congr (fun i hi => h i (by omega)), h k (by omega)]
def okO (h0 h1 r z : Int) : Prop := (-9 ≤ h0 ∧ h0 ≤ 9) ∧ (-9 ≤ h1 ∧ h1 ≤ 9) ∧ (1 ≤ r ∧ r ≤ 99) ∧ (-999 ≤ z ∧ z ≤ 999)
/-- a vector of six, shrunk -/
def Shr (v w : Nat → Int) : Prop := ∀ i, i < 6 → w i = v i / ((gF (v 5) v 5 : Nat) : Int)
def Observed (M M1 : Nat → Nat → Int) (N : Nat → Int) (t q : Nat) (h0 h1 r z : Int) : Prop := ∃ N1, Rep M1 N1 ∧ (M1 0 0 = (t : Int) ∧ M1 0 1 = (q : Int) + 1 ∧ M1 0 2 = 0) ∧ (M1 6 = M 6 ∧ M1 7 = M 7 ∧ M1 8 = M 8) ∧
  (N1 (72 + 4 * q) = gY (fun i => N (24 + 6 * t + i)) h0 h1 z ∧ N1 (72 + 4 * q + 1) = N (24 + 6 * t + 5) ∧ N1 (72 + 4 * q + 2) = gS (fun i => N (24 + 6 * t + i)) h0 h1 r ∧ N1 (72 + 4 * q + 3) = N (24 + 6 * t + 5)) ∧
  Shr (obsV (fun i => N (24 + 6 * t + i)) h0 h1 r z) (fun i => N1 (24 + 6 * t + i)) ∧ ∀ j, j < 96 → (j < 24 + 6 * t ∨ 24 + 6 * t + 6 ≤ j) → (j < 72 + 4 * q ∨ 72 + 4 * q + 4 ≤ j) → N1 j = N j
set_option maxRecDepth 100000 in
set_option maxHeartbeats 4000000 in
theorem c_M_observe (l : Launch) (D : va_G) (cs : Nat → ClassId) (ad : Nat → Nat) (M : Nat → Nat → Int) (N : Nat → Int) (t q : Nat) (h0 h1 r z : Int) (i0 : R31 h0) (i1 : R31 h1) (i2 : R31 r) (i3 : R31 z) (hR : Rep M N) (ht : M 0 0 = (t : Int)) (ht3 : t ≤ 3) (hq : M 0 1 = (q : Int)) (hq6 : q ≤ 6) (hb : ∀ i, i < 6 → Bn (N (24 + 6 * t + i)) 128) (hpos : okO h0 h1 r z → 0 < N (24 + 6 * t + 5) * gS (fun i => N (24 + 6 * t + i)) h0 h1 r) : Ct (S := Int × (Nat → Nat → Int)) l D (tyL cs) y_M_observe b_M_observe 11 (some .int) (rm 7) [.ref (ad 0), .int (iI h0), .int (iI h1), .int (iI r), .int (iI z)] (wM ad cs M) (fun u => (¬ okO h0 h1 r z ∧ u = (-3, M)) ∨ (okO h0 h1 r z ∧ q = 6 ∧ u = (-5, M)) ∨ (okO h0 h1 r z ∧ q ≠ 6 ∧ u.1 = (q : Int) ∧ Observed M u.2 N t q h0 h1 r z)) (fun u => some (.int (iI u.1))) (fun u => wM ad cs u.2) := by
  refine Ct.introI (by decide) (Nat.le_of_ble_eq_true rfl) ?_
  intro p e s m below meth c A args Q H locs X hnm hw kr ls hl
  have X : CX D (tyL cs) R_M b_M_observe 11 p m c s args := X
  have hl : lv_has ls 11 [(0, .ref (ad 0)), (1, .int (iI h0)), (2, .int (iI h1)), (3, .int (iI r)), (4, .int (iI z))] := hl
  obtain ⟨f, hf⟩ : ∃ f, f = 24 + 6 * t := ⟨_, rfl⟩
  obtain ⟨ob, hob⟩ : ∃ f, f = 72 + 4 * q := ⟨_, rfl⟩
  simp only [Observed] at kr
  rw [← hf] at hb
  simp only [← hf] at hpos kr
  simp only [← hob] at kr
  obtain ⟨u0, hu0⟩ : ∃ g, N f = g := ⟨_, rfl⟩
  have bu0 : Bn u0 128 := by rw [← hu0]; exact hb 0 (by decide)
  obtain ⟨u1, hu1⟩ : ∃ g, N (f + 1) = g := ⟨_, rfl⟩
  have bu1 : Bn u1 128 := by rw [← hu1]; exact hb 1 (by decide)
  obtain ⟨u2, hu2⟩ : ∃ g, N (f + 2) = g := ⟨_, rfl⟩
  have bu2 : Bn u2 128 := by rw [← hu2]; exact hb 2 (by decide)
  obtain ⟨u3, hu3⟩ : ∃ g, N (f + 3) = g := ⟨_, rfl⟩
  have bu3 : Bn u3 128 := by rw [← hu3]; exact hb 3 (by decide)
  obtain ⟨u4, hu4⟩ : ∃ g, N (f + 4) = g := ⟨_, rfl⟩
  have bu4 : Bn u4 128 := by rw [← hu4]; exact hb 4 (by decide)
  obtain ⟨u5, hu5⟩ : ∃ g, N (f + 5) = g := ⟨_, rfl⟩
  have bu5 : Bn u5 128 := by rw [← hu5]; exact hb 5 (by decide)
  have i01 := i0.1
  have i02 := i0.2
  have i11 := i1.1
  have i12 := i1.2
  have i21 := i2.1
  have i22 := i2.2
  have i31 := i3.1
  have i32 := i3.2
  refine sy_iload_n X d_M_observe_0 hl 1 rfl ?_
  refine sy_bipush X d_M_observe_1 (by decide) ?_
  refine call_Si (Xs := []) (As := [.int (iI h0), .int (iI 9)]) (rest := []) X lk_M_107 (c_M_bound l D cs (wM ad cs M) h0 9 i0 (by decide)) ⟨by decide, by decide⟩ hw rfl hl.1 (Nat.le_of_ble_eq_true rfl) d_M_observe_3 rfl rfl ⟨Nat.zero_le _, Nat.zero_le _⟩ (fun _ H locs _ hw => ?_)
  refine sy_ifb_eq (tgt := 40) X d_M_observe_6 (by decide) (fun c1 => ?_) (fun c1 => ?_)
  · refine sy_bipush X d_M_observe_40 (by decide) ?_
    exact kr (-3, M) _ _ _ _ _ d_M_observe_42 hw (Or.inl ⟨fun h => by simp only [okO] at h; omega, rfl⟩) rfl
  · refine sy_iload_n X d_M_observe_9 hl 2 rfl ?_
    refine sy_bipush X d_M_observe_10 (by decide) ?_
    refine call_Si (Xs := []) (As := [.int (iI h1), .int (iI 9)]) (rest := []) X lk_M_107 (c_M_bound l D cs (wM ad cs M) h1 9 i1 (by decide)) ⟨by decide, by decide⟩ hw rfl hl.1 (Nat.le_of_ble_eq_true rfl) d_M_observe_12 rfl rfl ⟨Nat.zero_le _, Nat.zero_le _⟩ (fun _ H locs _ hw => ?_)
    refine sy_ifb_eq (tgt := 40) X d_M_observe_15 (by decide) (fun c2 => ?_) (fun c2 => ?_)
    · refine sy_bipush X d_M_observe_40 (by decide) ?_
      exact kr (-3, M) _ _ _ _ _ d_M_observe_42 hw (Or.inl ⟨fun h => by simp only [okO] at h; omega, rfl⟩) rfl
    · refine sy_iload_n X d_M_observe_18 hl 3 rfl ?_
      refine sy_iconst X d_M_observe_19 ?_
      refine sy_icmp_lt (tgt := 40) X d_M_observe_20 (by decide) ⟨by omega, by omega⟩ ⟨by omega, by omega⟩ (fun c3 => ?_) (fun c3 => ?_)
      · refine sy_bipush X d_M_observe_40 (by decide) ?_
        exact kr (-3, M) _ _ _ _ _ d_M_observe_42 hw (Or.inl ⟨fun h => by simp only [okO] at h; omega, rfl⟩) rfl
      · refine sy_iload_n X d_M_observe_23 hl 3 rfl ?_
        refine sy_bipush X d_M_observe_24 (by decide) ?_
        refine sy_icmp_gt (tgt := 40) X d_M_observe_26 (by decide) ⟨by omega, by omega⟩ ⟨by omega, by omega⟩ (fun c4 => ?_) (fun c4 => ?_)
        · refine sy_bipush X d_M_observe_40 (by decide) ?_
          exact kr (-3, M) _ _ _ _ _ d_M_observe_42 hw (Or.inl ⟨fun h => by simp only [okO] at h; omega, rfl⟩) rfl
        · refine sy_iload X d_M_observe_29 hl 4 rfl ?_
          refine sy_sipush X d_M_observe_31 (by decide) ?_
          refine call_Si (Xs := []) (As := [.int (iI z), .int (iI 999)]) (rest := []) X lk_M_107 (c_M_bound l D cs (wM ad cs M) z 999 i3 (by decide)) ⟨by decide, by decide⟩ hw rfl hl.1 (Nat.le_of_ble_eq_true rfl) d_M_observe_34 rfl rfl ⟨Nat.zero_le _, Nat.zero_le _⟩ (fun _ H locs _ hw => ?_)
          refine sy_ifb_ne (tgt := 43) X d_M_observe_37 (by decide) (fun c5 => ?_) (fun c5 => ?_)
          · refine sy_aload_n X d_M_observe_43 hl 0 rfl ?_
            refine m_get (v := .int (iI (q : Int))) X hw 6 (by decide) (by show some (Value.int (iI (M 0 1))) = _; rw [hq]) (tt_of k515 rfl) d_M_observe_44 ?_
            refine sy_bipush X d_M_observe_47 (by decide) ?_
            refine sy_icmp_ne (tgt := 55) X d_M_observe_49 (by decide) ⟨by omega, by omega⟩ ⟨by omega, by omega⟩ (fun c6 => ?_) (fun c6 => ?_)
            · have hok : okO h0 h1 r z := by simp only [okO]; omega
              have hq5 : q ≤ 5 := by omega
              have hpos := hpos hok
              obtain ⟨ok0, ok1, ok2, ok3⟩ := hok
              have b0 : Bn h0 4 := Bn.of (k := 9) ok0 (by decide)
              have b1 : Bn h1 4 := Bn.of (k := 9) ok1 (by decide)
              have br : Bn r 7 := Bn.of (k := 99) (by omega) (by decide)
              have bz : Bn z 10 := Bn.of (k := 999) ok3 (by decide)
              refine sy_bipush X d_M_observe_55 (by decide) ?_
              refine sy_bipush X d_M_observe_57 (by decide) ?_
              refine sy_aload_n X d_M_observe_59 hl 0 rfl ?_
              refine m_get (v := .int (iI (t : Int))) X hw 5 (by decide) (by show some (Value.int (iI (M 0 0))) = _; rw [ht]) (tt_of k514 rfl) d_M_observe_60 ?_
              refine sy_imul X d_M_observe_63 ?_
              refine sy_iadd X d_M_observe_64 ?_
              rw [show ((24 : Int) + 6 * (t : Int)) = ((f : Nat) : Int) by omega]
              refine sy_istore (lv1 := [(5, .int (iI ((f : Nat) : Int))), (0, .ref (ad 0)), (1, .int (iI h0)), (2, .int (iI h1)), (3, .int (iI r)), (4, .int (iI z))]) X d_M_observe_65 hl (by decide) rfl (fun ls hl => ?_)
              refine sy_bipush X d_M_observe_67 (by decide) ?_
              refine sy_istore (lv1 := [(6, .int (iI 100)), (5, .int (iI ((f : Nat) : Int))), (0, .ref (ad 0)), (1, .int (iI h0)), (2, .int (iI h1)), (3, .int (iI r)), (4, .int (iI z))]) X d_M_observe_69 hl (by decide) rfl (fun ls hl => ?_)
              refine sy_bipush X d_M_observe_71 (by decide) ?_
              refine sy_iconst X d_M_observe_73 ?_
              refine sy_aload_n X d_M_observe_74 hl 2 rfl ?_
              refine m_get (v := .int (iI (q : Int))) X hw 6 (by decide) (by show some (Value.int (iI (M 0 1))) = _; rw [hq]) (tt_of k515 rfl) d_M_observe_75 ?_
              refine sy_imul X d_M_observe_78 ?_
              refine sy_iadd X d_M_observe_79 ?_
              rw [show ((72 : Int) + 4 * (q : Int)) = ((ob : Nat) : Int) by omega]
              refine sy_istore (lv1 := [(7, .int (iI ((ob : Nat) : Int))), (6, .int (iI 100)), (5, .int (iI ((f : Nat) : Int))), (0, .ref (ad 0)), (1, .int (iI h0)), (2, .int (iI h1)), (3, .int (iI r)), (4, .int (iI z))]) X d_M_observe_80 hl (by decide) rfl (fun ls hl => ?_)
              refine sy_aload_n X d_M_observe_82 hl 3 rfl ?_
              refine sy_iload X d_M_observe_83 hl 2 rfl ?_
              refine sy_iload_n X d_M_observe_85 hl 4 rfl ?_
              refine sy_iload_n X d_M_observe_86 hl 5 rfl ?_
              refine sy_iload_n X d_M_observe_87 hl 6 rfl ?_
              refine call_Vv (Xs := []) (b := ad 0) (As := [.int (iI ((f : Nat) : Int)), .int (iI h0), .int (iI h1), .int (iI r)]) (rest := []) X lk_M_117 (c_M_gains l D cs ad M N f h0 h1 r 128 (by omega) ok0 ok1 ok2 hR rfl hb) ⟨by decide, by decide⟩ rcv_M hw rfl hl.1 (Nat.le_of_ble_eq_true rfl) d_M_observe_88 rfl rfl ⟨Nat.zero_le _, Nat.zero_le _⟩ (fun Mg H locs pg hw => ?_)
              obtain ⟨N1, pgr, pgs, ⟨g96, g97, g98⟩, fr1⟩ := pg
              rw [hu2, hu3] at g96
              rw [hu3, hu4] at g97
              rw [hu2, hu3, hu4, hu5] at g98
              obtain ⟨W0, eW0⟩ : ∃ g, g = u2 * h0 + u3 * h1 := ⟨_, rfl⟩
              obtain ⟨W1, eW1⟩ : ∃ g, g = u3 * h0 + u4 * h1 := ⟨_, rfl⟩
              rw [← eW0] at g96
              rw [← eW1] at g97
              rw [← eW0, ← eW1] at g98
              obtain ⟨S0, eS0⟩ : ∃ g, g = W0 * h0 + W1 * h1 + u5 * r := ⟨_, rfl⟩
              rw [← eS0] at g98
              have bW0 : Bn W0 133 := by rw [eW0]; exact Bn.add (Bn.mul bu2 b0) (Bn.mul bu3 b1)
              have bW1 : Bn W1 133 := by rw [eW1]; exact Bn.add (Bn.mul bu3 b0) (Bn.mul bu4 b1)
              have bS0 : Bn S0 139 := by rw [eS0]; exact Bn.add (Bn.add (Bn.mul bW0 b0) (Bn.mul bW1 b1)) (Bn.mul bu5 br)
              refine sy_bipush X d_M_observe_91 (by decide) ?_
              refine sy_istore (lv1 := [(8, .int (iI 98)), (7, .int (iI ((ob : Nat) : Int))), (6, .int (iI 100)), (5, .int (iI ((f : Nat) : Int))), (0, .ref (ad 0)), (1, .int (iI h0)), (2, .int (iI h1)), (3, .int (iI r)), (4, .int (iI z))]) X d_M_observe_93 hl (by decide) rfl (fun ls hl => ?_)
              refine sy_bipush X d_M_observe_95 (by decide) ?_
              refine sy_istore (lv1 := [(9, .int (iI 99)), (8, .int (iI 98)), (7, .int (iI ((ob : Nat) : Int))), (6, .int (iI 100)), (5, .int (iI ((f : Nat) : Int))), (0, .ref (ad 0)), (1, .int (iI h0)), (2, .int (iI h1)), (3, .int (iI r)), (4, .int (iI z))]) X d_M_observe_97 hl (by decide) rfl (fun ls hl => ?_)
              refine sy_aload_n X d_M_observe_99 hl 5 rfl ?_
              refine sy_iload X d_M_observe_100 hl 0 rfl ?_
              refine sy_iload X d_M_observe_102 hl 4 rfl ?_
              refine sy_iconst X d_M_observe_104 ?_
              refine sy_iadd X d_M_observe_105 ?_
              refine sy_iload X d_M_observe_106 hl 9 rfl ?_
              have hv_1 : N1 (f + 5) = u5 := (fr1 (f + 5) (by omega)).trans (hu5)
              refine call_Vv (Xs := []) (b := ad 0) (As := [.int (iI 99), .int (iI (((f : Nat) : Int) + 5)), .int (iI z)]) (rest := []) X lk_M_52 (c_M_scale l D cs ad Mg N1 99 (f + 5) z (by omega) (by omega) ⟨by omega, by omega⟩ pgr (by rw [hv_1]; exact Bn.fin (Bn.mul bu5 bz) (by decide))) ⟨by decide, by decide⟩ rcv_M hw rfl hl.1 (Nat.le_of_ble_eq_true rfl) d_M_observe_108 rfl rfl ⟨Nat.zero_le _, Nat.zero_le _⟩ (fun M_3 H locs p_2 hw => ?_)
              obtain ⟨N2, eN2⟩ : ∃ g, g = up1 N1 99 (N1 (f + 5) * z) := ⟨_, rfl⟩
              rw [← eN2] at p_2
              have fr2 : ∀ j, j ≠ 99 → N2 j = N1 j := fun j h0 => by rw [eN2, up1_n _ h0]
              obtain ⟨w_4, ew_4⟩ : ∃ g, g = u5 * z := ⟨_, rfl⟩
              have hv_5 : N2 99 = w_4 := by rw [eN2, up1_s, hv_1, ew_4]
              have hb_6 : Bn w_4 138 := by rw [ew_4]; exact Bn.mul bu5 bz
              refine sy_aload_n X d_M_observe_111 hl 5 rfl ?_
              refine sy_iload X d_M_observe_112 hl 0 rfl ?_
              refine sy_iload X d_M_observe_114 hl 4 rfl ?_
              refine sy_iload_n X d_M_observe_116 hl 6 rfl ?_
              refine sy_ineg X d_M_observe_117 ?_
              refine sy_iload X d_M_observe_118 hl 3 rfl ?_
              have hv_7 : N2 f = u0 := (fr2 f (by omega)).trans ((fr1 f (by omega)).trans (hu0))
              refine call_Vv (Xs := []) (b := ad 0) (As := [.int (iI 99), .int (iI ((f : Nat) : Int)), .int (iI (-h0)), .int (iI 100)]) (rest := []) X lk_M_114 (c_M_gain l D cs ad M_3 N2 99 f (-h0) 100 (by omega) (by omega) (by omega) (by omega) ⟨by omega, by omega⟩ p_2.1 (by rw [hv_7]; exact Bn.fin (Bn.mul bu0 (b0).neg) (by decide)) (by rw [hv_5, hv_7]; exact Bn.fin (Bn.add hb_6 (Bn.mul bu0 (b0).neg)) (by decide))) ⟨by decide, by decide⟩ rcv_M hw rfl hl.1 (Nat.le_of_ble_eq_true rfl) d_M_observe_120 rfl rfl ⟨Nat.zero_le _, Nat.zero_le _⟩ (fun M_9 H locs p_8 hw => ?_)
              obtain ⟨N3, eN3⟩ : ∃ g, g = up1 (up1 N2 100 (N2 f * (-h0))) 99 (N2 99 + N2 f * (-h0)) := ⟨_, rfl⟩
              rw [← eN3] at p_8
              have fr3 : ∀ j, j ≠ 100 → j ≠ 99 → N3 j = N2 j := fun j h0 h1 => by rw [eN3, up1_n _ h1, up1_n _ h0]
              obtain ⟨w_10, ew_10⟩ : ∃ g, g = u0 * (-h0) := ⟨_, rfl⟩
              have hv_11 : N3 100 = w_10 := by rw [eN3, up1_n _ (by omega), up1_s, hv_7, ew_10]
              have hb_12 : Bn w_10 132 := by rw [ew_10]; exact Bn.mul bu0 (b0).neg
              obtain ⟨w_13, ew_13⟩ : ∃ g, g = w_4 + u0 * (-h0) := ⟨_, rfl⟩
              have hv_14 : N3 99 = w_13 := by rw [eN3, up1_s, hv_5, hv_7, ew_13]
              have hb_15 : Bn w_13 139 := by rw [ew_13]; exact Bn.add hb_6 (Bn.mul bu0 (b0).neg)
              refine sy_aload_n X d_M_observe_123 hl 5 rfl ?_
              refine sy_iload X d_M_observe_124 hl 0 rfl ?_
              refine sy_iload X d_M_observe_126 hl 4 rfl ?_
              refine sy_iconst X d_M_observe_128 ?_
              refine sy_iadd X d_M_observe_129 ?_
              refine sy_iload_n X d_M_observe_130 hl 7 rfl ?_
              refine sy_ineg X d_M_observe_131 ?_
              refine sy_iload X d_M_observe_132 hl 3 rfl ?_
              have hv_16 : N3 (f + 1) = u1 := (fr3 (f + 1) (by omega) (by omega)).trans ((fr2 (f + 1) (by omega)).trans ((fr1 (f + 1) (by omega)).trans (hu1)))
              refine call_Vv (Xs := []) (b := ad 0) (As := [.int (iI 99), .int (iI (((f : Nat) : Int) + 1)), .int (iI (-h1)), .int (iI 100)]) (rest := []) X lk_M_114 (c_M_gain l D cs ad M_9 N3 99 (f + 1) (-h1) 100 (by omega) (by omega) (by omega) (by omega) ⟨by omega, by omega⟩ p_8.1 (by rw [hv_16]; exact Bn.fin (Bn.mul bu1 (b1).neg) (by decide)) (by rw [hv_14, hv_16]; exact Bn.fin (Bn.add hb_15 (Bn.mul bu1 (b1).neg)) (by decide))) ⟨by decide, by decide⟩ rcv_M hw rfl hl.1 (Nat.le_of_ble_eq_true rfl) d_M_observe_134 rfl rfl ⟨Nat.zero_le _, Nat.zero_le _⟩ (fun M_18 H locs p_17 hw => ?_)
              obtain ⟨N4, eN4⟩ : ∃ g, g = up1 (up1 N3 100 (N3 (f + 1) * (-h1))) 99 (N3 99 + N3 (f + 1) * (-h1)) := ⟨_, rfl⟩
              rw [← eN4] at p_17
              have fr4 : ∀ j, j ≠ 100 → j ≠ 99 → N4 j = N3 j := fun j h0 h1 => by rw [eN4, up1_n _ h1, up1_n _ h0]
              obtain ⟨w_19, ew_19⟩ : ∃ g, g = u1 * (-h1) := ⟨_, rfl⟩
              have hv_20 : N4 100 = w_19 := by rw [eN4, up1_n _ (by omega), up1_s, hv_16, ew_19]
              have hb_21 : Bn w_19 132 := by rw [ew_19]; exact Bn.mul bu1 (b1).neg
              obtain ⟨w_22, ew_22⟩ : ∃ g, g = w_13 + u1 * (-h1) := ⟨_, rfl⟩
              have hv_23 : N4 99 = w_22 := by rw [eN4, up1_s, hv_14, hv_16, ew_22]
              have hb_24 : Bn w_22 140 := by rw [ew_22]; exact Bn.add hb_15 (Bn.mul bu1 (b1).neg)
              refine sy_aload_n X d_M_observe_137 hl 5 rfl ?_
              refine sy_iload X d_M_observe_138 hl 2 rfl ?_
              refine sy_iload X d_M_observe_140 hl 0 rfl ?_
              refine call_Vv (Xs := []) (b := ad 0) (As := [.int (iI ((ob : Nat) : Int)), .int (iI 99)]) (rest := []) X lk_M_78 (c_M_copy l D cs ad M_18 N4 ob 99 (by omega) (by omega) p_17.1) ⟨by decide, by decide⟩ rcv_M hw rfl hl.1 (Nat.le_of_ble_eq_true rfl) d_M_observe_142 rfl rfl ⟨Nat.zero_le _, Nat.zero_le _⟩ (fun M_26 H locs p_250 hw => ?_)
              have p_25 := (⟨p_250.1, p_250.2.1⟩ : Rep M_26 (up1 N4 ob (N4 99)) ∧ Sm M_18 M_26)
              obtain ⟨N5, eN5⟩ : ∃ g, g = up1 N4 ob (N4 99) := ⟨_, rfl⟩
              rw [← eN5] at p_25
              have fr5 : ∀ j, j ≠ ob → N5 j = N4 j := fun j h0 => by rw [eN5, up1_n _ h0]
              obtain ⟨w_27, ew_27⟩ : ∃ g, g = w_22 := ⟨_, rfl⟩
              have hv_28 : N5 ob = w_27 := by rw [eN5, up1_s, hv_23, ew_27]
              have hb_29 : Bn w_27 140 := by rw [ew_27]; exact hb_24
              refine sy_aload_n X d_M_observe_145 hl 5 rfl ?_
              refine sy_iload X d_M_observe_146 hl 2 rfl ?_
              refine sy_iconst X d_M_observe_148 ?_
              refine sy_iadd X d_M_observe_149 ?_
              refine sy_iload X d_M_observe_150 hl 4 rfl ?_
              refine sy_iconst X d_M_observe_152 ?_
              refine sy_iadd X d_M_observe_153 ?_
              have hv_30 : N5 (f + 5) = u5 := (fr5 (f + 5) (by omega)).trans ((fr4 (f + 5) (by omega) (by omega)).trans ((fr3 (f + 5) (by omega) (by omega)).trans ((fr2 (f + 5) (by omega)).trans (hv_1))))
              refine call_Vv (Xs := []) (b := ad 0) (As := [.int (iI (((ob : Nat) : Int) + 1)), .int (iI (((f : Nat) : Int) + 5))]) (rest := []) X lk_M_78 (c_M_copy l D cs ad M_26 N5 (ob + 1) (f + 5) (by omega) (by omega) p_25.1) ⟨by decide, by decide⟩ rcv_M hw rfl hl.1 (Nat.le_of_ble_eq_true rfl) d_M_observe_154 rfl rfl ⟨Nat.zero_le _, Nat.zero_le _⟩ (fun M_32 H locs p_310 hw => ?_)
              have p_31 := (⟨p_310.1, p_310.2.1⟩ : Rep M_32 (up1 N5 (ob + 1) (N5 (f + 5))) ∧ Sm M_26 M_32)
              obtain ⟨N6, eN6⟩ : ∃ g, g = up1 N5 (ob + 1) (N5 (f + 5)) := ⟨_, rfl⟩
              rw [← eN6] at p_31
              have fr6 : ∀ j, j ≠ (ob + 1) → N6 j = N5 j := fun j h0 => by rw [eN6, up1_n _ h0]
              obtain ⟨w_33, ew_33⟩ : ∃ g, g = u5 := ⟨_, rfl⟩
              have hv_34 : N6 (ob + 1) = w_33 := by rw [eN6, up1_s, hv_30, ew_33]
              have hb_35 : Bn w_33 128 := by rw [ew_33]; exact bu5
              refine sy_aload_n X d_M_observe_157 hl 5 rfl ?_
              refine sy_iload X d_M_observe_158 hl 2 rfl ?_
              refine sy_iconst X d_M_observe_160 ?_
              refine sy_iadd X d_M_observe_161 ?_
              refine sy_iload X d_M_observe_162 hl 1 rfl ?_
              have hv_36 : N6 98 = S0 := (fr6 98 (by omega)).trans ((fr5 98 (by omega)).trans ((fr4 98 (by omega) (by omega)).trans ((fr3 98 (by omega) (by omega)).trans ((fr2 98 (by omega)).trans (g98)))))
              refine call_Vv (Xs := []) (b := ad 0) (As := [.int (iI (((ob : Nat) : Int) + 2)), .int (iI 98)]) (rest := []) X lk_M_78 (c_M_copy l D cs ad M_32 N6 (ob + 2) 98 (by omega) (by omega) p_31.1) ⟨by decide, by decide⟩ rcv_M hw rfl hl.1 (Nat.le_of_ble_eq_true rfl) d_M_observe_164 rfl rfl ⟨Nat.zero_le _, Nat.zero_le _⟩ (fun M_38 H locs p_370 hw => ?_)
              have p_37 := (⟨p_370.1, p_370.2.1⟩ : Rep M_38 (up1 N6 (ob + 2) (N6 98)) ∧ Sm M_32 M_38)
              obtain ⟨N7, eN7⟩ : ∃ g, g = up1 N6 (ob + 2) (N6 98) := ⟨_, rfl⟩
              rw [← eN7] at p_37
              have fr7 : ∀ j, j ≠ (ob + 2) → N7 j = N6 j := fun j h0 => by rw [eN7, up1_n _ h0]
              obtain ⟨w_39, ew_39⟩ : ∃ g, g = S0 := ⟨_, rfl⟩
              have hv_40 : N7 (ob + 2) = w_39 := by rw [eN7, up1_s, hv_36, ew_39]
              have hb_41 : Bn w_39 139 := by rw [ew_39]; exact bS0
              refine sy_aload_n X d_M_observe_167 hl 5 rfl ?_
              refine sy_iload X d_M_observe_168 hl 2 rfl ?_
              refine sy_iconst X d_M_observe_170 ?_
              refine sy_iadd X d_M_observe_171 ?_
              refine sy_iload X d_M_observe_172 hl 4 rfl ?_
              refine sy_iconst X d_M_observe_174 ?_
              refine sy_iadd X d_M_observe_175 ?_
              have hv_42 : N7 (f + 5) = u5 := (fr7 (f + 5) (by omega)).trans ((fr6 (f + 5) (by omega)).trans (hv_30))
              refine call_Vv (Xs := []) (b := ad 0) (As := [.int (iI (((ob : Nat) : Int) + 3)), .int (iI (((f : Nat) : Int) + 5))]) (rest := []) X lk_M_78 (c_M_copy l D cs ad M_38 N7 (ob + 3) (f + 5) (by omega) (by omega) p_37.1) ⟨by decide, by decide⟩ rcv_M hw rfl hl.1 (Nat.le_of_ble_eq_true rfl) d_M_observe_176 rfl rfl ⟨Nat.zero_le _, Nat.zero_le _⟩ (fun M_44 H locs p_430 hw => ?_)
              have p_43 := (⟨p_430.1, p_430.2.1⟩ : Rep M_44 (up1 N7 (ob + 3) (N7 (f + 5))) ∧ Sm M_38 M_44)
              obtain ⟨N8, eN8⟩ : ∃ g, g = up1 N7 (ob + 3) (N7 (f + 5)) := ⟨_, rfl⟩
              rw [← eN8] at p_43
              have fr8 : ∀ j, j ≠ (ob + 3) → N8 j = N7 j := fun j h0 => by rw [eN8, up1_n _ h0]
              obtain ⟨w_45, ew_45⟩ : ∃ g, g = u5 := ⟨_, rfl⟩
              have hv_46 : N8 (ob + 3) = w_45 := by rw [eN8, up1_s, hv_42, ew_45]
              have hb_47 : Bn w_45 128 := by rw [ew_45]; exact bu5
              refine sy_iconst X d_M_observe_179 ?_
              refine sy_istore (lv1 := [(10, .int (iI 0)), (9, .int (iI 99)), (8, .int (iI 98)), (7, .int (iI ((ob : Nat) : Int))), (6, .int (iI 100)), (5, .int (iI ((f : Nat) : Int))), (0, .ref (ad 0)), (1, .int (iI h0)), (2, .int (iI h1)), (3, .int (iI r)), (4, .int (iI z))]) X d_M_observe_180 hl (by decide) rfl (fun ls hl => ?_)
              refine sy_iload X d_M_observe_182 hl 0 rfl ?_
              refine sy_iconst X d_M_observe_184 ?_
              refine sy_icmp_ge (tgt := 229) X d_M_observe_185 (by decide) ⟨by decide, by decide⟩ ⟨by decide, by decide⟩ (fun c7 => ?_) (fun c7 => ?_)
              · exact absurd c7 (by decide)
              · refine sy_aload_n X d_M_observe_188 hl 6 rfl ?_
                refine sy_iload X d_M_observe_189 hl 5 rfl ?_
                refine sy_iload X d_M_observe_191 hl 0 rfl ?_
                refine sy_iadd X d_M_observe_193 ?_
                refine sy_iload X d_M_observe_194 hl 5 rfl ?_
                refine sy_iload X d_M_observe_196 hl 0 rfl ?_
                refine sy_iadd X d_M_observe_198 ?_
                refine sy_iload X d_M_observe_199 hl 2 rfl ?_
                have hv_48 : N8 f = u0 := (fr8 f (by omega)).trans ((fr7 f (by omega)).trans ((fr6 f (by omega)).trans ((fr5 f (by omega)).trans ((fr4 f (by omega) (by omega)).trans ((fr3 f (by omega) (by omega)).trans (hv_7))))))
                have hv_49 : N8 98 = S0 := (fr8 98 (by omega)).trans ((fr7 98 (by omega)).trans (hv_36))
                refine call_Vv (Xs := []) (b := ad 0) (As := [.int (iI (((f : Nat) : Int) + 0)), .int (iI (((f : Nat) : Int) + 0)), .int (iI 98)]) (rest := []) X lk_M_59 (c_M_times l D cs ad M_44 N8 f f 98 (by omega) (by omega) (by omega) p_43.1 (by rw [hv_48, hv_49]; exact Bn.fin (Bn.mul bu0 bS0) (by decide))) ⟨by decide, by decide⟩ rcv_M hw rfl hl.1 (Nat.le_of_ble_eq_true rfl) d_M_observe_201 rfl rfl ⟨Nat.zero_le _, Nat.zero_le _⟩ (fun M_51 H locs p_50 hw => ?_)
                obtain ⟨N9, eN9⟩ : ∃ g, g = up1 N8 f (N8 f * N8 98) := ⟨_, rfl⟩
                rw [← eN9] at p_50
                have fr9 : ∀ j, j ≠ f → N9 j = N8 j := fun j h0 => by rw [eN9, up1_n _ h0]
                obtain ⟨w_52, ew_52⟩ : ∃ g, g = u0 * S0 := ⟨_, rfl⟩
                have hv_53 : N9 f = w_52 := by rw [eN9, up1_s, hv_48, hv_49, ew_52]
                have hb_54 : Bn w_52 267 := by rw [ew_52]; exact Bn.mul bu0 bS0
                refine sy_aload_n X d_M_observe_204 hl 6 rfl ?_
                refine sy_iload X d_M_observe_205 hl 5 rfl ?_
                refine sy_iload X d_M_observe_207 hl 0 rfl ?_
                refine sy_iadd X d_M_observe_209 ?_
                refine sy_bipush X d_M_observe_210 (by decide) ?_
                refine sy_iload X d_M_observe_212 hl 0 rfl ?_
                refine sy_iadd X d_M_observe_214 ?_
                refine sy_iload X d_M_observe_215 hl 1 rfl ?_
                refine sy_iconst X d_M_observe_217 ?_
                refine sy_iload X d_M_observe_218 hl 4 rfl ?_
                have hv_55 : N9 96 = W0 := (fr9 96 (by omega)).trans ((fr8 96 (by omega)).trans ((fr7 96 (by omega)).trans ((fr6 96 (by omega)).trans ((fr5 96 (by omega)).trans ((fr4 96 (by omega) (by omega)).trans ((fr3 96 (by omega) (by omega)).trans ((fr2 96 (by omega)).trans (g96))))))))
                have hv_56 : N9 99 = w_22 := (fr9 99 (by omega)).trans ((fr8 99 (by omega)).trans ((fr7 99 (by omega)).trans ((fr6 99 (by omega)).trans ((fr5 99 (by omega)).trans (hv_23)))))
                refine call_Vv (Xs := []) (b := ad 0) (As := [.int (iI (((f : Nat) : Int) + 0)), .int (iI (96 + 0)), .int (iI 99), .int (iI 1), .int (iI 100)]) (rest := []) X lk_M_120 (c_M_join l D cs ad M_51 N9 f 96 99 1 100 (by omega) (by omega) (by omega) (by omega) (by omega) (by decide) p_50.1 (by rw [hv_55, hv_56]; exact Bn.fin (Bn.mul bW0 hb_24) (by decide)) (by rw [hv_53, hv_55, hv_56]; exact Bn.fin (Bn.add hb_54 ((Bn.mul bW0 hb_24).sg (by decide))) (by decide))) ⟨by decide, by decide⟩ rcv_M hw rfl hl.1 (Nat.le_of_ble_eq_true rfl) d_M_observe_220 rfl rfl ⟨Nat.zero_le _, Nat.zero_le _⟩ (fun M_58 H locs p_57 hw => ?_)
                obtain ⟨N10, eN10⟩ : ∃ g, g = up1 (up1 N9 100 (N9 96 * N9 99)) f (N9 f + 1 * (N9 96 * N9 99)) := ⟨_, rfl⟩
                rw [← eN10] at p_57
                have fr10 : ∀ j, j ≠ 100 → j ≠ f → N10 j = N9 j := fun j h0 h1 => by rw [eN10, up1_n _ h1, up1_n _ h0]
                obtain ⟨w_59, ew_59⟩ : ∃ g, g = W0 * w_22 := ⟨_, rfl⟩
                have hv_60 : N10 100 = w_59 := by rw [eN10, up1_n _ (by omega), up1_s, hv_55, hv_56, ew_59]
                have hb_61 : Bn w_59 273 := by rw [ew_59]; exact Bn.mul bW0 hb_24
                obtain ⟨w_62, ew_62⟩ : ∃ g, g = w_52 + 1 * (W0 * w_22) := ⟨_, rfl⟩
                have hv_63 : N10 f = w_62 := by rw [eN10, up1_s, hv_53, hv_55, hv_56, ew_62]
                have hb_64 : Bn w_62 274 := by rw [ew_62]; exact Bn.add hb_54 ((Bn.mul bW0 hb_24).sg (by decide))
                refine sy_iinc (lv1 := [(10, .int (iI 1)), (9, .int (iI 99)), (8, .int (iI 98)), (7, .int (iI ((ob : Nat) : Int))), (6, .int (iI 100)), (5, .int (iI ((f : Nat) : Int))), (0, .ref (ad 0)), (1, .int (iI h0)), (2, .int (iI h1)), (3, .int (iI r)), (4, .int (iI z))]) X d_M_observe_223 hl 0 rfl (by omega) (by decide) rfl (fun ls hl => ?_)
                refine sy_goto (tgt := 182) X d_M_observe_226 (by decide) ?_
                refine sy_iload X d_M_observe_182 hl 0 rfl ?_
                refine sy_iconst X d_M_observe_184 ?_
                refine sy_icmp_ge (tgt := 229) X d_M_observe_185 (by decide) ⟨by decide, by decide⟩ ⟨by decide, by decide⟩ (fun c8 => ?_) (fun c8 => ?_)
                · exact absurd c8 (by decide)
                · refine sy_aload_n X d_M_observe_188 hl 6 rfl ?_
                  refine sy_iload X d_M_observe_189 hl 5 rfl ?_
                  refine sy_iload X d_M_observe_191 hl 0 rfl ?_
                  refine sy_iadd X d_M_observe_193 ?_
                  refine sy_iload X d_M_observe_194 hl 5 rfl ?_
                  refine sy_iload X d_M_observe_196 hl 0 rfl ?_
                  refine sy_iadd X d_M_observe_198 ?_
                  refine sy_iload X d_M_observe_199 hl 2 rfl ?_
                  have hv_65 : N10 (f + 1) = u1 := (fr10 (f + 1) (by omega) (by omega)).trans ((fr9 (f + 1) (by omega)).trans ((fr8 (f + 1) (by omega)).trans ((fr7 (f + 1) (by omega)).trans ((fr6 (f + 1) (by omega)).trans ((fr5 (f + 1) (by omega)).trans ((fr4 (f + 1) (by omega) (by omega)).trans (hv_16)))))))
                  have hv_66 : N10 98 = S0 := (fr10 98 (by omega) (by omega)).trans ((fr9 98 (by omega)).trans (hv_49))
                  refine call_Vv (Xs := []) (b := ad 0) (As := [.int (iI (((f : Nat) : Int) + 1)), .int (iI (((f : Nat) : Int) + 1)), .int (iI 98)]) (rest := []) X lk_M_59 (c_M_times l D cs ad M_58 N10 (f + 1) (f + 1) 98 (by omega) (by omega) (by omega) p_57.1 (by rw [hv_65, hv_66]; exact Bn.fin (Bn.mul bu1 bS0) (by decide))) ⟨by decide, by decide⟩ rcv_M hw rfl hl.1 (Nat.le_of_ble_eq_true rfl) d_M_observe_201 rfl rfl ⟨Nat.zero_le _, Nat.zero_le _⟩ (fun M_68 H locs p_67 hw => ?_)
                  obtain ⟨N11, eN11⟩ : ∃ g, g = up1 N10 (f + 1) (N10 (f + 1) * N10 98) := ⟨_, rfl⟩
                  rw [← eN11] at p_67
                  have fr11 : ∀ j, j ≠ (f + 1) → N11 j = N10 j := fun j h0 => by rw [eN11, up1_n _ h0]
                  obtain ⟨w_69, ew_69⟩ : ∃ g, g = u1 * S0 := ⟨_, rfl⟩
                  have hv_70 : N11 (f + 1) = w_69 := by rw [eN11, up1_s, hv_65, hv_66, ew_69]
                  have hb_71 : Bn w_69 267 := by rw [ew_69]; exact Bn.mul bu1 bS0
                  refine sy_aload_n X d_M_observe_204 hl 6 rfl ?_
                  refine sy_iload X d_M_observe_205 hl 5 rfl ?_
                  refine sy_iload X d_M_observe_207 hl 0 rfl ?_
                  refine sy_iadd X d_M_observe_209 ?_
                  refine sy_bipush X d_M_observe_210 (by decide) ?_
                  refine sy_iload X d_M_observe_212 hl 0 rfl ?_
                  refine sy_iadd X d_M_observe_214 ?_
                  refine sy_iload X d_M_observe_215 hl 1 rfl ?_
                  refine sy_iconst X d_M_observe_217 ?_
                  refine sy_iload X d_M_observe_218 hl 4 rfl ?_
                  have hv_72 : N11 97 = W1 := (fr11 97 (by omega)).trans ((fr10 97 (by omega) (by omega)).trans ((fr9 97 (by omega)).trans ((fr8 97 (by omega)).trans ((fr7 97 (by omega)).trans ((fr6 97 (by omega)).trans ((fr5 97 (by omega)).trans ((fr4 97 (by omega) (by omega)).trans ((fr3 97 (by omega) (by omega)).trans ((fr2 97 (by omega)).trans (g97))))))))))
                  have hv_73 : N11 99 = w_22 := (fr11 99 (by omega)).trans ((fr10 99 (by omega) (by omega)).trans (hv_56))
                  refine call_Vv (Xs := []) (b := ad 0) (As := [.int (iI (((f : Nat) : Int) + 1)), .int (iI (96 + 1)), .int (iI 99), .int (iI 1), .int (iI 100)]) (rest := []) X lk_M_120 (c_M_join l D cs ad M_68 N11 (f + 1) 97 99 1 100 (by omega) (by omega) (by omega) (by omega) (by omega) (by decide) p_67.1 (by rw [hv_72, hv_73]; exact Bn.fin (Bn.mul bW1 hb_24) (by decide)) (by rw [hv_70, hv_72, hv_73]; exact Bn.fin (Bn.add hb_71 ((Bn.mul bW1 hb_24).sg (by decide))) (by decide))) ⟨by decide, by decide⟩ rcv_M hw rfl hl.1 (Nat.le_of_ble_eq_true rfl) d_M_observe_220 rfl rfl ⟨Nat.zero_le _, Nat.zero_le _⟩ (fun M_75 H locs p_74 hw => ?_)
                  obtain ⟨N12, eN12⟩ : ∃ g, g = up1 (up1 N11 100 (N11 97 * N11 99)) (f + 1) (N11 (f + 1) + 1 * (N11 97 * N11 99)) := ⟨_, rfl⟩
                  rw [← eN12] at p_74
                  have fr12 : ∀ j, j ≠ 100 → j ≠ (f + 1) → N12 j = N11 j := fun j h0 h1 => by rw [eN12, up1_n _ h1, up1_n _ h0]
                  obtain ⟨w_76, ew_76⟩ : ∃ g, g = W1 * w_22 := ⟨_, rfl⟩
                  have hv_77 : N12 100 = w_76 := by rw [eN12, up1_n _ (by omega), up1_s, hv_72, hv_73, ew_76]
                  have hb_78 : Bn w_76 273 := by rw [ew_76]; exact Bn.mul bW1 hb_24
                  obtain ⟨w_79, ew_79⟩ : ∃ g, g = w_69 + 1 * (W1 * w_22) := ⟨_, rfl⟩
                  have hv_80 : N12 (f + 1) = w_79 := by rw [eN12, up1_s, hv_70, hv_72, hv_73, ew_79]
                  have hb_81 : Bn w_79 274 := by rw [ew_79]; exact Bn.add hb_71 ((Bn.mul bW1 hb_24).sg (by decide))
                  refine sy_iinc (lv1 := [(10, .int (iI 2)), (9, .int (iI 99)), (8, .int (iI 98)), (7, .int (iI ((ob : Nat) : Int))), (6, .int (iI 100)), (5, .int (iI ((f : Nat) : Int))), (0, .ref (ad 0)), (1, .int (iI h0)), (2, .int (iI h1)), (3, .int (iI r)), (4, .int (iI z))]) X d_M_observe_223 hl 0 rfl (by omega) (by decide) rfl (fun ls hl => ?_)
                  refine sy_goto (tgt := 182) X d_M_observe_226 (by decide) ?_
                  refine sy_iload X d_M_observe_182 hl 0 rfl ?_
                  refine sy_iconst X d_M_observe_184 ?_
                  refine sy_icmp_ge (tgt := 229) X d_M_observe_185 (by decide) ⟨by decide, by decide⟩ ⟨by decide, by decide⟩ (fun c9 => ?_) (fun c9 => ?_)
                  · refine sy_iconst X d_M_observe_229 ?_
                    refine sy_istore (lv1 := [(10, .int (iI 0)), (9, .int (iI 99)), (8, .int (iI 98)), (7, .int (iI ((ob : Nat) : Int))), (6, .int (iI 100)), (5, .int (iI ((f : Nat) : Int))), (0, .ref (ad 0)), (1, .int (iI h0)), (2, .int (iI h1)), (3, .int (iI r)), (4, .int (iI z))]) X d_M_observe_230 hl (by decide) rfl (fun ls hl => ?_)
                    refine sy_iload X d_M_observe_232 hl 0 rfl ?_
                    refine sy_iconst X d_M_observe_234 ?_
                    refine sy_icmp_ge (tgt := 294) X d_M_observe_235 (by decide) ⟨by decide, by decide⟩ ⟨by decide, by decide⟩ (fun c10 => ?_) (fun c10 => ?_)
                    · exact absurd c10 (by decide)
                    · refine sy_aload_n X d_M_observe_238 hl 6 rfl ?_
                      refine sy_iload X d_M_observe_239 hl 5 rfl ?_
                      refine sy_iconst X d_M_observe_241 ?_
                      refine sy_iadd X d_M_observe_242 ?_
                      refine sy_iload X d_M_observe_243 hl 0 rfl ?_
                      refine sy_iadd X d_M_observe_245 ?_
                      refine sy_iload X d_M_observe_246 hl 5 rfl ?_
                      refine sy_iconst X d_M_observe_248 ?_
                      refine sy_iadd X d_M_observe_249 ?_
                      refine sy_iload X d_M_observe_250 hl 0 rfl ?_
                      refine sy_iadd X d_M_observe_252 ?_
                      refine sy_iload X d_M_observe_253 hl 2 rfl ?_
                      have hv_82 : N12 (f + 2) = u2 := (fr12 (f + 2) (by omega) (by omega)).trans ((fr11 (f + 2) (by omega)).trans ((fr10 (f + 2) (by omega) (by omega)).trans ((fr9 (f + 2) (by omega)).trans ((fr8 (f + 2) (by omega)).trans ((fr7 (f + 2) (by omega)).trans ((fr6 (f + 2) (by omega)).trans ((fr5 (f + 2) (by omega)).trans ((fr4 (f + 2) (by omega) (by omega)).trans ((fr3 (f + 2) (by omega) (by omega)).trans ((fr2 (f + 2) (by omega)).trans ((fr1 (f + 2) (by omega)).trans (hu2))))))))))))
                      have hv_83 : N12 98 = S0 := (fr12 98 (by omega) (by omega)).trans ((fr11 98 (by omega)).trans (hv_66))
                      refine call_Vv (Xs := []) (b := ad 0) (As := [.int (iI ((((f : Nat) : Int) + 2) + 0)), .int (iI ((((f : Nat) : Int) + 2) + 0)), .int (iI 98)]) (rest := []) X lk_M_59 (c_M_times l D cs ad M_75 N12 (f + 2) (f + 2) 98 (by omega) (by omega) (by omega) p_74.1 (by rw [hv_82, hv_83]; exact Bn.fin (Bn.mul bu2 bS0) (by decide))) ⟨by decide, by decide⟩ rcv_M hw rfl hl.1 (Nat.le_of_ble_eq_true rfl) d_M_observe_255 rfl rfl ⟨Nat.zero_le _, Nat.zero_le _⟩ (fun M_85 H locs p_84 hw => ?_)
                      obtain ⟨N13, eN13⟩ : ∃ g, g = up1 N12 (f + 2) (N12 (f + 2) * N12 98) := ⟨_, rfl⟩
                      rw [← eN13] at p_84
                      have fr13 : ∀ j, j ≠ (f + 2) → N13 j = N12 j := fun j h0 => by rw [eN13, up1_n _ h0]
                      obtain ⟨w_86, ew_86⟩ : ∃ g, g = u2 * S0 := ⟨_, rfl⟩
                      have hv_87 : N13 (f + 2) = w_86 := by rw [eN13, up1_s, hv_82, hv_83, ew_86]
                      have hb_88 : Bn w_86 267 := by rw [ew_86]; exact Bn.mul bu2 bS0
                      refine sy_aload_n X d_M_observe_258 hl 6 rfl ?_
                      refine sy_iload X d_M_observe_259 hl 5 rfl ?_
                      refine sy_iconst X d_M_observe_261 ?_
                      refine sy_iadd X d_M_observe_262 ?_
                      refine sy_iload X d_M_observe_263 hl 0 rfl ?_
                      refine sy_iadd X d_M_observe_265 ?_
                      refine sy_bipush X d_M_observe_266 (by decide) ?_
                      refine sy_iload X d_M_observe_268 hl 0 rfl ?_
                      refine sy_iconst X d_M_observe_270 ?_
                      refine sy_idivK (c := 0) X d_M_observe_271 (by decide) ?_
                      refine sy_iadd X d_M_observe_272 ?_
                      refine sy_bipush X d_M_observe_273 (by decide) ?_
                      refine sy_iload X d_M_observe_275 hl 0 rfl ?_
                      refine sy_iconst X d_M_observe_277 ?_
                      refine sy_iadd X d_M_observe_278 ?_
                      refine sy_iconst X d_M_observe_279 ?_
                      refine sy_idivK (c := 0) X d_M_observe_280 (by decide) ?_
                      refine sy_iadd X d_M_observe_281 ?_
                      refine sy_iconst X d_M_observe_282 ?_
                      refine sy_iload X d_M_observe_283 hl 4 rfl ?_
                      have hv_89 : N13 96 = W0 := (fr13 96 (by omega)).trans ((fr12 96 (by omega) (by omega)).trans ((fr11 96 (by omega)).trans ((fr10 96 (by omega) (by omega)).trans (hv_55))))
                      refine call_Vv (Xs := []) (b := ad 0) (As := [.int (iI ((((f : Nat) : Int) + 2) + 0)), .int (iI (96 + 0)), .int (iI (96 + 0)), .int (iI (-1)), .int (iI 100)]) (rest := []) X lk_M_120 (c_M_join l D cs ad M_85 N13 (f + 2) 96 96 (-1) 100 (by omega) (by omega) (by omega) (by omega) (by omega) (by decide) p_84.1 (by rw [hv_89]; exact Bn.fin (Bn.mul bW0 bW0) (by decide)) (by rw [hv_87, hv_89]; exact Bn.fin (Bn.add hb_88 ((Bn.mul bW0 bW0).sg (by decide))) (by decide))) ⟨by decide, by decide⟩ rcv_M hw rfl hl.1 (Nat.le_of_ble_eq_true rfl) d_M_observe_285 rfl rfl ⟨Nat.zero_le _, Nat.zero_le _⟩ (fun M_91 H locs p_90 hw => ?_)
                      obtain ⟨N14, eN14⟩ : ∃ g, g = up1 (up1 N13 100 (N13 96 * N13 96)) (f + 2) (N13 (f + 2) + (-1) * (N13 96 * N13 96)) := ⟨_, rfl⟩
                      rw [← eN14] at p_90
                      have fr14 : ∀ j, j ≠ 100 → j ≠ (f + 2) → N14 j = N13 j := fun j h0 h1 => by rw [eN14, up1_n _ h1, up1_n _ h0]
                      obtain ⟨w_92, ew_92⟩ : ∃ g, g = W0 * W0 := ⟨_, rfl⟩
                      have hv_93 : N14 100 = w_92 := by rw [eN14, up1_n _ (by omega), up1_s, hv_89, ew_92]
                      have hb_94 : Bn w_92 266 := by rw [ew_92]; exact Bn.mul bW0 bW0
                      obtain ⟨w_95, ew_95⟩ : ∃ g, g = w_86 + (-1) * (W0 * W0) := ⟨_, rfl⟩
                      have hv_96 : N14 (f + 2) = w_95 := by rw [eN14, up1_s, hv_87, hv_89, ew_95]
                      have hb_97 : Bn w_95 268 := by rw [ew_95]; exact Bn.add hb_88 ((Bn.mul bW0 bW0).sg (by decide))
                      refine sy_iinc (lv1 := [(10, .int (iI 1)), (9, .int (iI 99)), (8, .int (iI 98)), (7, .int (iI ((ob : Nat) : Int))), (6, .int (iI 100)), (5, .int (iI ((f : Nat) : Int))), (0, .ref (ad 0)), (1, .int (iI h0)), (2, .int (iI h1)), (3, .int (iI r)), (4, .int (iI z))]) X d_M_observe_288 hl 0 rfl (by omega) (by decide) rfl (fun ls hl => ?_)
                      refine sy_goto (tgt := 232) X d_M_observe_291 (by decide) ?_
                      refine sy_iload X d_M_observe_232 hl 0 rfl ?_
                      refine sy_iconst X d_M_observe_234 ?_
                      refine sy_icmp_ge (tgt := 294) X d_M_observe_235 (by decide) ⟨by decide, by decide⟩ ⟨by decide, by decide⟩ (fun c11 => ?_) (fun c11 => ?_)
                      · exact absurd c11 (by decide)
                      · refine sy_aload_n X d_M_observe_238 hl 6 rfl ?_
                        refine sy_iload X d_M_observe_239 hl 5 rfl ?_
                        refine sy_iconst X d_M_observe_241 ?_
                        refine sy_iadd X d_M_observe_242 ?_
                        refine sy_iload X d_M_observe_243 hl 0 rfl ?_
                        refine sy_iadd X d_M_observe_245 ?_
                        refine sy_iload X d_M_observe_246 hl 5 rfl ?_
                        refine sy_iconst X d_M_observe_248 ?_
                        refine sy_iadd X d_M_observe_249 ?_
                        refine sy_iload X d_M_observe_250 hl 0 rfl ?_
                        refine sy_iadd X d_M_observe_252 ?_
                        refine sy_iload X d_M_observe_253 hl 2 rfl ?_
                        have hv_98 : N14 (f + 3) = u3 := (fr14 (f + 3) (by omega) (by omega)).trans ((fr13 (f + 3) (by omega)).trans ((fr12 (f + 3) (by omega) (by omega)).trans ((fr11 (f + 3) (by omega)).trans ((fr10 (f + 3) (by omega) (by omega)).trans ((fr9 (f + 3) (by omega)).trans ((fr8 (f + 3) (by omega)).trans ((fr7 (f + 3) (by omega)).trans ((fr6 (f + 3) (by omega)).trans ((fr5 (f + 3) (by omega)).trans ((fr4 (f + 3) (by omega) (by omega)).trans ((fr3 (f + 3) (by omega) (by omega)).trans ((fr2 (f + 3) (by omega)).trans ((fr1 (f + 3) (by omega)).trans (hu3))))))))))))))
                        have hv_99 : N14 98 = S0 := (fr14 98 (by omega) (by omega)).trans ((fr13 98 (by omega)).trans (hv_83))
                        refine call_Vv (Xs := []) (b := ad 0) (As := [.int (iI ((((f : Nat) : Int) + 2) + 1)), .int (iI ((((f : Nat) : Int) + 2) + 1)), .int (iI 98)]) (rest := []) X lk_M_59 (c_M_times l D cs ad M_91 N14 (f + 3) (f + 3) 98 (by omega) (by omega) (by omega) p_90.1 (by rw [hv_98, hv_99]; exact Bn.fin (Bn.mul bu3 bS0) (by decide))) ⟨by decide, by decide⟩ rcv_M hw rfl hl.1 (Nat.le_of_ble_eq_true rfl) d_M_observe_255 rfl rfl ⟨Nat.zero_le _, Nat.zero_le _⟩ (fun M_101 H locs p_100 hw => ?_)
                        obtain ⟨N15, eN15⟩ : ∃ g, g = up1 N14 (f + 3) (N14 (f + 3) * N14 98) := ⟨_, rfl⟩
                        rw [← eN15] at p_100
                        have fr15 : ∀ j, j ≠ (f + 3) → N15 j = N14 j := fun j h0 => by rw [eN15, up1_n _ h0]
                        obtain ⟨w_102, ew_102⟩ : ∃ g, g = u3 * S0 := ⟨_, rfl⟩
                        have hv_103 : N15 (f + 3) = w_102 := by rw [eN15, up1_s, hv_98, hv_99, ew_102]
                        have hb_104 : Bn w_102 267 := by rw [ew_102]; exact Bn.mul bu3 bS0
                        refine sy_aload_n X d_M_observe_258 hl 6 rfl ?_
                        refine sy_iload X d_M_observe_259 hl 5 rfl ?_
                        refine sy_iconst X d_M_observe_261 ?_
                        refine sy_iadd X d_M_observe_262 ?_
                        refine sy_iload X d_M_observe_263 hl 0 rfl ?_
                        refine sy_iadd X d_M_observe_265 ?_
                        refine sy_bipush X d_M_observe_266 (by decide) ?_
                        refine sy_iload X d_M_observe_268 hl 0 rfl ?_
                        refine sy_iconst X d_M_observe_270 ?_
                        refine sy_idivK (c := 0) X d_M_observe_271 (by decide) ?_
                        refine sy_iadd X d_M_observe_272 ?_
                        refine sy_bipush X d_M_observe_273 (by decide) ?_
                        refine sy_iload X d_M_observe_275 hl 0 rfl ?_
                        refine sy_iconst X d_M_observe_277 ?_
                        refine sy_iadd X d_M_observe_278 ?_
                        refine sy_iconst X d_M_observe_279 ?_
                        refine sy_idivK (c := 1) X d_M_observe_280 (by decide) ?_
                        refine sy_iadd X d_M_observe_281 ?_
                        refine sy_iconst X d_M_observe_282 ?_
                        refine sy_iload X d_M_observe_283 hl 4 rfl ?_
                        have hv_105 : N15 96 = W0 := (fr15 96 (by omega)).trans ((fr14 96 (by omega) (by omega)).trans (hv_89))
                        have hv_106 : N15 97 = W1 := (fr15 97 (by omega)).trans ((fr14 97 (by omega) (by omega)).trans ((fr13 97 (by omega)).trans ((fr12 97 (by omega) (by omega)).trans (hv_72))))
                        refine call_Vv (Xs := []) (b := ad 0) (As := [.int (iI ((((f : Nat) : Int) + 2) + 1)), .int (iI (96 + 0)), .int (iI (96 + 1)), .int (iI (-1)), .int (iI 100)]) (rest := []) X lk_M_120 (c_M_join l D cs ad M_101 N15 (f + 3) 96 97 (-1) 100 (by omega) (by omega) (by omega) (by omega) (by omega) (by decide) p_100.1 (by rw [hv_105, hv_106]; exact Bn.fin (Bn.mul bW0 bW1) (by decide)) (by rw [hv_103, hv_105, hv_106]; exact Bn.fin (Bn.add hb_104 ((Bn.mul bW0 bW1).sg (by decide))) (by decide))) ⟨by decide, by decide⟩ rcv_M hw rfl hl.1 (Nat.le_of_ble_eq_true rfl) d_M_observe_285 rfl rfl ⟨Nat.zero_le _, Nat.zero_le _⟩ (fun M_108 H locs p_107 hw => ?_)
                        obtain ⟨N16, eN16⟩ : ∃ g, g = up1 (up1 N15 100 (N15 96 * N15 97)) (f + 3) (N15 (f + 3) + (-1) * (N15 96 * N15 97)) := ⟨_, rfl⟩
                        rw [← eN16] at p_107
                        have fr16 : ∀ j, j ≠ 100 → j ≠ (f + 3) → N16 j = N15 j := fun j h0 h1 => by rw [eN16, up1_n _ h1, up1_n _ h0]
                        obtain ⟨w_109, ew_109⟩ : ∃ g, g = W0 * W1 := ⟨_, rfl⟩
                        have hv_110 : N16 100 = w_109 := by rw [eN16, up1_n _ (by omega), up1_s, hv_105, hv_106, ew_109]
                        have hb_111 : Bn w_109 266 := by rw [ew_109]; exact Bn.mul bW0 bW1
                        obtain ⟨w_112, ew_112⟩ : ∃ g, g = w_102 + (-1) * (W0 * W1) := ⟨_, rfl⟩
                        have hv_113 : N16 (f + 3) = w_112 := by rw [eN16, up1_s, hv_103, hv_105, hv_106, ew_112]
                        have hb_114 : Bn w_112 268 := by rw [ew_112]; exact Bn.add hb_104 ((Bn.mul bW0 bW1).sg (by decide))
                        refine sy_iinc (lv1 := [(10, .int (iI 2)), (9, .int (iI 99)), (8, .int (iI 98)), (7, .int (iI ((ob : Nat) : Int))), (6, .int (iI 100)), (5, .int (iI ((f : Nat) : Int))), (0, .ref (ad 0)), (1, .int (iI h0)), (2, .int (iI h1)), (3, .int (iI r)), (4, .int (iI z))]) X d_M_observe_288 hl 0 rfl (by omega) (by decide) rfl (fun ls hl => ?_)
                        refine sy_goto (tgt := 232) X d_M_observe_291 (by decide) ?_
                        refine sy_iload X d_M_observe_232 hl 0 rfl ?_
                        refine sy_iconst X d_M_observe_234 ?_
                        refine sy_icmp_ge (tgt := 294) X d_M_observe_235 (by decide) ⟨by decide, by decide⟩ ⟨by decide, by decide⟩ (fun c12 => ?_) (fun c12 => ?_)
                        · exact absurd c12 (by decide)
                        · refine sy_aload_n X d_M_observe_238 hl 6 rfl ?_
                          refine sy_iload X d_M_observe_239 hl 5 rfl ?_
                          refine sy_iconst X d_M_observe_241 ?_
                          refine sy_iadd X d_M_observe_242 ?_
                          refine sy_iload X d_M_observe_243 hl 0 rfl ?_
                          refine sy_iadd X d_M_observe_245 ?_
                          refine sy_iload X d_M_observe_246 hl 5 rfl ?_
                          refine sy_iconst X d_M_observe_248 ?_
                          refine sy_iadd X d_M_observe_249 ?_
                          refine sy_iload X d_M_observe_250 hl 0 rfl ?_
                          refine sy_iadd X d_M_observe_252 ?_
                          refine sy_iload X d_M_observe_253 hl 2 rfl ?_
                          have hv_115 : N16 (f + 4) = u4 := (fr16 (f + 4) (by omega) (by omega)).trans ((fr15 (f + 4) (by omega)).trans ((fr14 (f + 4) (by omega) (by omega)).trans ((fr13 (f + 4) (by omega)).trans ((fr12 (f + 4) (by omega) (by omega)).trans ((fr11 (f + 4) (by omega)).trans ((fr10 (f + 4) (by omega) (by omega)).trans ((fr9 (f + 4) (by omega)).trans ((fr8 (f + 4) (by omega)).trans ((fr7 (f + 4) (by omega)).trans ((fr6 (f + 4) (by omega)).trans ((fr5 (f + 4) (by omega)).trans ((fr4 (f + 4) (by omega) (by omega)).trans ((fr3 (f + 4) (by omega) (by omega)).trans ((fr2 (f + 4) (by omega)).trans ((fr1 (f + 4) (by omega)).trans (hu4))))))))))))))))
                          have hv_116 : N16 98 = S0 := (fr16 98 (by omega) (by omega)).trans ((fr15 98 (by omega)).trans (hv_99))
                          refine call_Vv (Xs := []) (b := ad 0) (As := [.int (iI ((((f : Nat) : Int) + 2) + 2)), .int (iI ((((f : Nat) : Int) + 2) + 2)), .int (iI 98)]) (rest := []) X lk_M_59 (c_M_times l D cs ad M_108 N16 (f + 4) (f + 4) 98 (by omega) (by omega) (by omega) p_107.1 (by rw [hv_115, hv_116]; exact Bn.fin (Bn.mul bu4 bS0) (by decide))) ⟨by decide, by decide⟩ rcv_M hw rfl hl.1 (Nat.le_of_ble_eq_true rfl) d_M_observe_255 rfl rfl ⟨Nat.zero_le _, Nat.zero_le _⟩ (fun M_118 H locs p_117 hw => ?_)
                          obtain ⟨N17, eN17⟩ : ∃ g, g = up1 N16 (f + 4) (N16 (f + 4) * N16 98) := ⟨_, rfl⟩
                          rw [← eN17] at p_117
                          have fr17 : ∀ j, j ≠ (f + 4) → N17 j = N16 j := fun j h0 => by rw [eN17, up1_n _ h0]
                          obtain ⟨w_119, ew_119⟩ : ∃ g, g = u4 * S0 := ⟨_, rfl⟩
                          have hv_120 : N17 (f + 4) = w_119 := by rw [eN17, up1_s, hv_115, hv_116, ew_119]
                          have hb_121 : Bn w_119 267 := by rw [ew_119]; exact Bn.mul bu4 bS0
                          refine sy_aload_n X d_M_observe_258 hl 6 rfl ?_
                          refine sy_iload X d_M_observe_259 hl 5 rfl ?_
                          refine sy_iconst X d_M_observe_261 ?_
                          refine sy_iadd X d_M_observe_262 ?_
                          refine sy_iload X d_M_observe_263 hl 0 rfl ?_
                          refine sy_iadd X d_M_observe_265 ?_
                          refine sy_bipush X d_M_observe_266 (by decide) ?_
                          refine sy_iload X d_M_observe_268 hl 0 rfl ?_
                          refine sy_iconst X d_M_observe_270 ?_
                          refine sy_idivK (c := 1) X d_M_observe_271 (by decide) ?_
                          refine sy_iadd X d_M_observe_272 ?_
                          refine sy_bipush X d_M_observe_273 (by decide) ?_
                          refine sy_iload X d_M_observe_275 hl 0 rfl ?_
                          refine sy_iconst X d_M_observe_277 ?_
                          refine sy_iadd X d_M_observe_278 ?_
                          refine sy_iconst X d_M_observe_279 ?_
                          refine sy_idivK (c := 1) X d_M_observe_280 (by decide) ?_
                          refine sy_iadd X d_M_observe_281 ?_
                          refine sy_iconst X d_M_observe_282 ?_
                          refine sy_iload X d_M_observe_283 hl 4 rfl ?_
                          have hv_122 : N17 97 = W1 := (fr17 97 (by omega)).trans ((fr16 97 (by omega) (by omega)).trans (hv_106))
                          refine call_Vv (Xs := []) (b := ad 0) (As := [.int (iI ((((f : Nat) : Int) + 2) + 2)), .int (iI (96 + 1)), .int (iI (96 + 1)), .int (iI (-1)), .int (iI 100)]) (rest := []) X lk_M_120 (c_M_join l D cs ad M_118 N17 (f + 4) 97 97 (-1) 100 (by omega) (by omega) (by omega) (by omega) (by omega) (by decide) p_117.1 (by rw [hv_122]; exact Bn.fin (Bn.mul bW1 bW1) (by decide)) (by rw [hv_120, hv_122]; exact Bn.fin (Bn.add hb_121 ((Bn.mul bW1 bW1).sg (by decide))) (by decide))) ⟨by decide, by decide⟩ rcv_M hw rfl hl.1 (Nat.le_of_ble_eq_true rfl) d_M_observe_285 rfl rfl ⟨Nat.zero_le _, Nat.zero_le _⟩ (fun M_124 H locs p_123 hw => ?_)
                          obtain ⟨N18, eN18⟩ : ∃ g, g = up1 (up1 N17 100 (N17 97 * N17 97)) (f + 4) (N17 (f + 4) + (-1) * (N17 97 * N17 97)) := ⟨_, rfl⟩
                          rw [← eN18] at p_123
                          have fr18 : ∀ j, j ≠ 100 → j ≠ (f + 4) → N18 j = N17 j := fun j h0 h1 => by rw [eN18, up1_n _ h1, up1_n _ h0]
                          obtain ⟨w_125, ew_125⟩ : ∃ g, g = W1 * W1 := ⟨_, rfl⟩
                          have hv_126 : N18 100 = w_125 := by rw [eN18, up1_n _ (by omega), up1_s, hv_122, ew_125]
                          have hb_127 : Bn w_125 266 := by rw [ew_125]; exact Bn.mul bW1 bW1
                          obtain ⟨w_128, ew_128⟩ : ∃ g, g = w_119 + (-1) * (W1 * W1) := ⟨_, rfl⟩
                          have hv_129 : N18 (f + 4) = w_128 := by rw [eN18, up1_s, hv_120, hv_122, ew_128]
                          have hb_130 : Bn w_128 268 := by rw [ew_128]; exact Bn.add hb_121 ((Bn.mul bW1 bW1).sg (by decide))
                          refine sy_iinc (lv1 := [(10, .int (iI 3)), (9, .int (iI 99)), (8, .int (iI 98)), (7, .int (iI ((ob : Nat) : Int))), (6, .int (iI 100)), (5, .int (iI ((f : Nat) : Int))), (0, .ref (ad 0)), (1, .int (iI h0)), (2, .int (iI h1)), (3, .int (iI r)), (4, .int (iI z))]) X d_M_observe_288 hl 0 rfl (by omega) (by decide) rfl (fun ls hl => ?_)
                          refine sy_goto (tgt := 232) X d_M_observe_291 (by decide) ?_
                          refine sy_iload X d_M_observe_232 hl 0 rfl ?_
                          refine sy_iconst X d_M_observe_234 ?_
                          refine sy_icmp_ge (tgt := 294) X d_M_observe_235 (by decide) ⟨by decide, by decide⟩ ⟨by decide, by decide⟩ (fun c13 => ?_) (fun c13 => ?_)
                          · refine sy_aload_n X d_M_observe_294 hl 6 rfl ?_
                            refine sy_iload X d_M_observe_295 hl 5 rfl ?_
                            refine sy_iconst X d_M_observe_297 ?_
                            refine sy_iadd X d_M_observe_298 ?_
                            refine sy_iload X d_M_observe_299 hl 5 rfl ?_
                            refine sy_iconst X d_M_observe_301 ?_
                            refine sy_iadd X d_M_observe_302 ?_
                            refine sy_iload X d_M_observe_303 hl 2 rfl ?_
                            have hv_131 : N18 (f + 5) = u5 := (fr18 (f + 5) (by omega) (by omega)).trans ((fr17 (f + 5) (by omega)).trans ((fr16 (f + 5) (by omega) (by omega)).trans ((fr15 (f + 5) (by omega)).trans ((fr14 (f + 5) (by omega) (by omega)).trans ((fr13 (f + 5) (by omega)).trans ((fr12 (f + 5) (by omega) (by omega)).trans ((fr11 (f + 5) (by omega)).trans ((fr10 (f + 5) (by omega) (by omega)).trans ((fr9 (f + 5) (by omega)).trans ((fr8 (f + 5) (by omega)).trans (hv_42)))))))))))
                            have hv_132 : N18 98 = S0 := (fr18 98 (by omega) (by omega)).trans ((fr17 98 (by omega)).trans (hv_116))
                            refine call_Vv (Xs := []) (b := ad 0) (As := [.int (iI (((f : Nat) : Int) + 5)), .int (iI (((f : Nat) : Int) + 5)), .int (iI 98)]) (rest := []) X lk_M_59 (c_M_times l D cs ad M_124 N18 (f + 5) (f + 5) 98 (by omega) (by omega) (by omega) p_123.1 (by rw [hv_131, hv_132]; exact Bn.fin (Bn.mul bu5 bS0) (by decide))) ⟨by decide, by decide⟩ rcv_M hw rfl hl.1 (Nat.le_of_ble_eq_true rfl) d_M_observe_305 rfl rfl ⟨Nat.zero_le _, Nat.zero_le _⟩ (fun M_134 H locs p_133 hw => ?_)
                            obtain ⟨N19, eN19⟩ : ∃ g, g = up1 N18 (f + 5) (N18 (f + 5) * N18 98) := ⟨_, rfl⟩
                            rw [← eN19] at p_133
                            have fr19 : ∀ j, j ≠ (f + 5) → N19 j = N18 j := fun j h0 => by rw [eN19, up1_n _ h0]
                            obtain ⟨w_135, ew_135⟩ : ∃ g, g = u5 * S0 := ⟨_, rfl⟩
                            have hv_136 : N19 (f + 5) = w_135 := by rw [eN19, up1_s, hv_131, hv_132, ew_135]
                            have hb_137 : Bn w_135 267 := by rw [ew_135]; exact Bn.mul bu5 bS0
                            refine sy_aload_n X d_M_observe_308 hl 6 rfl ?_
                            refine sy_iload X d_M_observe_309 hl 5 rfl ?_
                            refine sy_bipush X d_M_observe_311 (by decide) ?_
                            have hv_138 : N19 f = w_62 := (fr19 f (by omega)).trans ((fr18 f (by omega) (by omega)).trans ((fr17 f (by omega)).trans ((fr16 f (by omega) (by omega)).trans ((fr15 f (by omega)).trans ((fr14 f (by omega) (by omega)).trans ((fr13 f (by omega)).trans ((fr12 f (by omega) (by omega)).trans ((fr11 f (by omega)).trans (hv_63)))))))))
                            have hv_139 : N19 (f + 1) = w_79 := (fr19 (f + 1) (by omega)).trans ((fr18 (f + 1) (by omega) (by omega)).trans ((fr17 (f + 1) (by omega)).trans ((fr16 (f + 1) (by omega) (by omega)).trans ((fr15 (f + 1) (by omega)).trans ((fr14 (f + 1) (by omega) (by omega)).trans ((fr13 (f + 1) (by omega)).trans (hv_80)))))))
                            have hv_140 : N19 (f + 2) = w_95 := (fr19 (f + 2) (by omega)).trans ((fr18 (f + 2) (by omega) (by omega)).trans ((fr17 (f + 2) (by omega)).trans ((fr16 (f + 2) (by omega) (by omega)).trans ((fr15 (f + 2) (by omega)).trans (hv_96)))))
                            have hv_141 : N19 (f + 3) = w_112 := (fr19 (f + 3) (by omega)).trans ((fr18 (f + 3) (by omega) (by omega)).trans ((fr17 (f + 3) (by omega)).trans (hv_113)))
                            have hv_142 : N19 (f + 4) = w_128 := (fr19 (f + 4) (by omega)).trans (hv_129)
                            have hv_143 : N19 ob = w_27 := (fr19 ob (by omega)).trans ((fr18 ob (by omega) (by omega)).trans ((fr17 ob (by omega)).trans ((fr16 ob (by omega) (by omega)).trans ((fr15 ob (by omega)).trans ((fr14 ob (by omega) (by omega)).trans ((fr13 ob (by omega)).trans ((fr12 ob (by omega) (by omega)).trans ((fr11 ob (by omega)).trans ((fr10 ob (by omega) (by omega)).trans ((fr9 ob (by omega)).trans ((fr8 ob (by omega)).trans ((fr7 ob (by omega)).trans ((fr6 ob (by omega)).trans (hv_28))))))))))))))
                            have hv_144 : N19 (ob + 1) = w_33 := (fr19 (ob + 1) (by omega)).trans ((fr18 (ob + 1) (by omega) (by omega)).trans ((fr17 (ob + 1) (by omega)).trans ((fr16 (ob + 1) (by omega) (by omega)).trans ((fr15 (ob + 1) (by omega)).trans ((fr14 (ob + 1) (by omega) (by omega)).trans ((fr13 (ob + 1) (by omega)).trans ((fr12 (ob + 1) (by omega) (by omega)).trans ((fr11 (ob + 1) (by omega)).trans ((fr10 (ob + 1) (by omega) (by omega)).trans ((fr9 (ob + 1) (by omega)).trans ((fr8 (ob + 1) (by omega)).trans ((fr7 (ob + 1) (by omega)).trans (hv_34)))))))))))))
                            have hv_145 : N19 (ob + 2) = w_39 := (fr19 (ob + 2) (by omega)).trans ((fr18 (ob + 2) (by omega) (by omega)).trans ((fr17 (ob + 2) (by omega)).trans ((fr16 (ob + 2) (by omega) (by omega)).trans ((fr15 (ob + 2) (by omega)).trans ((fr14 (ob + 2) (by omega) (by omega)).trans ((fr13 (ob + 2) (by omega)).trans ((fr12 (ob + 2) (by omega) (by omega)).trans ((fr11 (ob + 2) (by omega)).trans ((fr10 (ob + 2) (by omega) (by omega)).trans ((fr9 (ob + 2) (by omega)).trans ((fr8 (ob + 2) (by omega)).trans (hv_40))))))))))))
                            have hv_146 : N19 (ob + 3) = w_45 := (fr19 (ob + 3) (by omega)).trans ((fr18 (ob + 3) (by omega) (by omega)).trans ((fr17 (ob + 3) (by omega)).trans ((fr16 (ob + 3) (by omega) (by omega)).trans ((fr15 (ob + 3) (by omega)).trans ((fr14 (ob + 3) (by omega) (by omega)).trans ((fr13 (ob + 3) (by omega)).trans ((fr12 (ob + 3) (by omega) (by omega)).trans ((fr11 (ob + 3) (by omega)).trans ((fr10 (ob + 3) (by omega) (by omega)).trans ((fr9 (ob + 3) (by omega)).trans (hv_46)))))))))))
                            obtain ⟨U, hU⟩ : ∃ g : Nat → Int, g = fun i => N (f + i) := ⟨_, rfl⟩
                            have hUi : U 0 = u0 ∧ U 1 = u1 ∧ U 2 = u2 ∧ U 3 = u3 ∧ U 4 = u4 ∧ U 5 = u5 := by rw [hU]; exact ⟨hu0, hu1, hu2, hu3, hu4, hu5⟩
                            obtain ⟨U0, U1, U2, U3, U4, U5⟩ := hUi
                            have hV0 : N19 (f + 0) = obsV U h0 h1 r z 0 := by
                              simp only [obsV, gS, gW0, gW1, gY, U0, U1, U2, U3, U4, U5]
                              rw [show f + 0 = f from rfl, hv_138]
                              simp only [ew_135, ew_128, ew_125, ew_119, ew_112, ew_109, ew_102, ew_95, ew_92, ew_86, ew_79, ew_76, ew_69, ew_62, ew_59, ew_52, ew_45, ew_39, ew_33, ew_27, ew_22, ew_19, ew_13, ew_10, ew_4, eS0, eW0, eW1]
                            have hV1 : N19 (f + 1) = obsV U h0 h1 r z 1 := by
                              simp only [obsV, gS, gW0, gW1, gY, U0, U1, U2, U3, U4, U5]
                              rw [hv_139]
                              simp only [ew_135, ew_128, ew_125, ew_119, ew_112, ew_109, ew_102, ew_95, ew_92, ew_86, ew_79, ew_76, ew_69, ew_62, ew_59, ew_52, ew_45, ew_39, ew_33, ew_27, ew_22, ew_19, ew_13, ew_10, ew_4, eS0, eW0, eW1]
                            have hV2 : N19 (f + 2) = obsV U h0 h1 r z 2 := by
                              simp only [obsV, gS, gW0, gW1, gY, U0, U1, U2, U3, U4, U5]
                              rw [hv_140]
                              simp only [ew_135, ew_128, ew_125, ew_119, ew_112, ew_109, ew_102, ew_95, ew_92, ew_86, ew_79, ew_76, ew_69, ew_62, ew_59, ew_52, ew_45, ew_39, ew_33, ew_27, ew_22, ew_19, ew_13, ew_10, ew_4, eS0, eW0, eW1]
                            have hV3 : N19 (f + 3) = obsV U h0 h1 r z 3 := by
                              simp only [obsV, gS, gW0, gW1, gY, U0, U1, U2, U3, U4, U5]
                              rw [hv_141]
                              simp only [ew_135, ew_128, ew_125, ew_119, ew_112, ew_109, ew_102, ew_95, ew_92, ew_86, ew_79, ew_76, ew_69, ew_62, ew_59, ew_52, ew_45, ew_39, ew_33, ew_27, ew_22, ew_19, ew_13, ew_10, ew_4, eS0, eW0, eW1]
                            have hV4 : N19 (f + 4) = obsV U h0 h1 r z 4 := by
                              simp only [obsV, gS, gW0, gW1, gY, U0, U1, U2, U3, U4, U5]
                              rw [hv_142]
                              simp only [ew_135, ew_128, ew_125, ew_119, ew_112, ew_109, ew_102, ew_95, ew_92, ew_86, ew_79, ew_76, ew_69, ew_62, ew_59, ew_52, ew_45, ew_39, ew_33, ew_27, ew_22, ew_19, ew_13, ew_10, ew_4, eS0, eW0, eW1]
                            have hV5 : N19 (f + 5) = obsV U h0 h1 r z 5 := by
                              simp only [obsV, gS, gW0, gW1, gY, U0, U1, U2, U3, U4, U5]
                              rw [hv_136]
                              simp only [ew_135, ew_128, ew_125, ew_119, ew_112, ew_109, ew_102, ew_95, ew_92, ew_86, ew_79, ew_76, ew_69, ew_62, ew_59, ew_52, ew_45, ew_39, ew_33, ew_27, ew_22, ew_19, ew_13, ew_10, ew_4, eS0, eW0, eW1]
                            have hVa : ∀ i, i < 6 → N19 (f + i) = obsV U h0 h1 r z i := fun i hi => by
                              have : i = 0 ∨ i = 1 ∨ i = 2 ∨ i = 3 ∨ i = 4 ∨ i = 5 := by omega
                              rcases this with e | e | e | e | e | e <;> subst e <;> assumption
                            rw [← hU] at hpos
                            have hpos5 : 0 < N19 (f + 6 - 1) := by rw [show f + 6 - 1 = f + 5 by omega, hV5]; simp only [obsV, U5]; rw [hu5] at hpos; exact hpos
                            refine call_Vv (Xs := []) (b := ad 0) (As := [.int (iI ((f : Nat) : Int)), .int (iI 6)]) (rest := []) X lk_M_123 (c_M_shrink l D cs ad M_134 N19 f 6 (by decide) (by omega) p_133.1 hpos5) ⟨by decide, by decide⟩ rcv_M hw rfl hl.1 (Nat.le_of_ble_eq_true rfl) d_M_observe_313 rfl rfl ⟨Nat.zero_le _, Nat.zero_le _⟩ (fun Mz H locs pz hw => ?_)
                            obtain ⟨Nz, pzr, pzs, pzv⟩ := pz
                            have hG : gF (N19 (f + 6 - 1)) (fun i => N19 (f + i)) (6 - 1) = gF (obsV U h0 h1 r z 5) (obsV U h0 h1 r z) 5 := by
                              rw [show f + 6 - 1 = f + 5 by omega, hV5]; exact gF_congr (fun i hi => hVa i (by omega))
                            rw [hG] at pzv
                            have hsm0 := ((((((((((((((((((pgs.tr p_2.2).tr p_8.2).tr p_17.2).tr p_25.2).tr p_31.2).tr p_37.2).tr p_43.2).tr p_50.2).tr p_57.2).tr p_67.2).tr p_74.2).tr p_84.2).tr p_90.2).tr p_100.2).tr p_107.2).tr p_117.2).tr p_123.2).tr p_133.2).tr pzs
                            refine sy_aload_n X d_M_observe_316 hl 6 rfl ?_
                            refine sy_iconst X d_M_observe_317 ?_
                            refine m_putz X hw (by decide) (tt_of k516 rfl) d_M_observe_318 (fun H locs hw => ?_)
                            refine sy_aload_n X d_M_observe_321 hl 6 rfl ?_
                            refine sy_dup X d_M_observe_322 rfl ?_
                            refine m_get (v := .int (iI (q : Int))) X hw 6 (by decide) (by show some (Value.int (iI ((up2 Mz 0 2 0) 0 1))) = _; rw [show (up2 Mz 0 2 0) 0 1 = Mz 0 1 from rfl, hsm0.1, hq]) (tt_of k515 rfl) d_M_observe_323 ?_
                            refine sy_iconst X d_M_observe_326 ?_
                            refine sy_iadd X d_M_observe_327 ?_
                            refine m_put X hw 1 (by decide) (tt_of k515 rfl) d_M_observe_328 (fun H locs hw => ?_)
                            refine sy_aload_n X d_M_observe_331 hl 6 rfl ?_
                            refine m_get (v := .int (iI ((q : Int) + 1))) X hw 6 (by decide) (by show some (Value.int (iI ((up2 (up2 Mz 0 2 0) 0 1 ((q : Int) + 1)) 0 1))) = _; rw [show (up2 (up2 Mz 0 2 0) 0 1 ((q : Int) + 1)) 0 1 = (q : Int) + 1 from rfl]) (tt_of k515 rfl) d_M_observe_332 ?_
                            refine sy_iconst X d_M_observe_335 ?_
                            refine sy_isub X d_M_observe_336 ?_
                            refine kr ((q : Int), up2 (up2 Mz 0 2 0) 0 1 ((q : Int) + 1)) _ _ _ _ _ d_M_observe_337 hw (Or.inr (Or.inr ⟨⟨ok0, ok1, ok2, ok3⟩, by omega, rfl, Nz, pzr, ⟨?_, rfl, rfl⟩, ⟨?_, ?_, ?_⟩, ⟨?_, ?_, ?_, ?_⟩, ?_, ?_⟩)) (by congr 3; omega)
                            · show Mz 0 0 = (t : Int); rw [hsm0.1, ht]
                            · show Mz 6 = M 6; exact hsm0.2.1
                            · show Mz 7 = M 7; exact hsm0.2.2.1
                            · show Mz 8 = M 8; exact hsm0.2.2.2
                            · rw [pzv _ (by omega), if_neg (by omega), hv_143, ← hU]; simp only [gY, U0, U1, U5, ew_135, ew_128, ew_125, ew_119, ew_112, ew_109, ew_102, ew_95, ew_92, ew_86, ew_79, ew_76, ew_69, ew_62, ew_59, ew_52, ew_45, ew_39, ew_33, ew_27, ew_22, ew_19, ew_13, ew_10, ew_4]
                            · rw [pzv _ (by omega), if_neg (by omega), hv_144, hu5]; simp only [ew_135, ew_128, ew_125, ew_119, ew_112, ew_109, ew_102, ew_95, ew_92, ew_86, ew_79, ew_76, ew_69, ew_62, ew_59, ew_52, ew_45, ew_39, ew_33, ew_27, ew_22, ew_19, ew_13, ew_10, ew_4]
                            · rw [pzv _ (by omega), if_neg (by omega), hv_145, ← hU]; simp only [gS, gW0, gW1, U2, U3, U4, U5, ew_135, ew_128, ew_125, ew_119, ew_112, ew_109, ew_102, ew_95, ew_92, ew_86, ew_79, ew_76, ew_69, ew_62, ew_59, ew_52, ew_45, ew_39, ew_33, ew_27, ew_22, ew_19, ew_13, ew_10, ew_4, eS0, eW0, eW1]
                            · rw [pzv _ (by omega), if_neg (by omega), hv_146, hu5]; simp only [ew_135, ew_128, ew_125, ew_119, ew_112, ew_109, ew_102, ew_95, ew_92, ew_86, ew_79, ew_76, ew_69, ew_62, ew_59, ew_52, ew_45, ew_39, ew_33, ew_27, ew_22, ew_19, ew_13, ew_10, ew_4]
                            · intro i hi; rw [← hU]; show Nz (f + i) = _; rw [pzv _ (by omega), if_pos (by omega), hVa i hi]
                            · intro j hj h1 h2; rw [pzv j (by omega), if_neg (by omega)]; exact (fr19 j (by omega)).trans ((fr18 j (by omega) (by omega)).trans ((fr17 j (by omega)).trans ((fr16 j (by omega) (by omega)).trans ((fr15 j (by omega)).trans ((fr14 j (by omega) (by omega)).trans ((fr13 j (by omega)).trans ((fr12 j (by omega) (by omega)).trans ((fr11 j (by omega)).trans ((fr10 j (by omega) (by omega)).trans ((fr9 j (by omega)).trans ((fr8 j (by omega)).trans ((fr7 j (by omega)).trans ((fr6 j (by omega)).trans ((fr5 j (by omega)).trans ((fr4 j (by omega) (by omega)).trans ((fr3 j (by omega) (by omega)).trans ((fr2 j (by omega)).trans ((fr1 j (by omega)).trans (rfl)))))))))))))))))))
                          · exact absurd c13 (by decide)
                  · exact absurd c9 (by decide)
            · refine sy_bipush X d_M_observe_52 (by decide) ?_
              exact kr (-5, M) _ _ _ _ _ d_M_observe_54 hw (Or.inr (Or.inl ⟨by simp only [okO]; omega, by omega, rfl⟩)) rfl
          · refine sy_bipush X d_M_observe_40 (by decide) ?_
            exact kr (-3, M) _ _ _ _ _ d_M_observe_42 hw (Or.inl ⟨fun h => by simp only [okO] at h; omega, rfl⟩) rfl
