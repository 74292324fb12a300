theorem Bn.div {x : Int} {b : Nat} (h : Bn x b) (g : Int) : Bn (x / g) b := Nat.le_trans (Int.natAbs_ediv_le_natAbs x g) h
theorem div_pos {x : Int} {g : Nat} (hg : 0 < g) (hd : (g : Int) ∣ x) (hx : 0 < x) : 0 < x / (g : Int) := by
  obtain ⟨t, rfl⟩ := hd
  rw [Int.mul_ediv_cancel_left _ (by omega)]
  rcases Int.lt_trichotomy t 0 with h | h | h
  · have := Int.mul_neg_of_pos_of_neg (show (0 : Int) < (g : Int) by omega) h; omega
  · subst h; simp at hx
  · exact h
/-- the matrix of a smoothing, before it is shrunk; its last number is the determinant -/
def matV (u p c : Nat → Int) : Nat → Int := fun i => match i with
  | 0 => (u 2 * c 0 + u 3 * c 1) * p 4 + -1 * ((u 2 * c 2 + u 3 * c 3) * p 3)
  | 1 => (u 2 * c 2 + u 3 * c 3) * p 2 + -1 * ((u 2 * c 0 + u 3 * c 1) * p 3)
  | 2 => (u 3 * c 0 + u 4 * c 1) * p 4 + -1 * ((u 3 * c 2 + u 4 * c 3) * p 3)
  | 3 => (u 3 * c 2 + u 4 * c 3) * p 2 + -1 * ((u 3 * c 0 + u 4 * c 1) * p 3)
  | _ => p 2 * p 4 + -1 * (p 3 * p 3)
def matG (u p c : Nat → Int) : Nat → Int := fun i => matV u p c i / ((gF (matV u p c 4) (matV u p c) 4 : Nat) : Int)
set_option maxRecDepth 100000 in
set_option maxHeartbeats 4000000 in
theorem c_M_matrix (l : Launch) (D : va_G) (cs : Nat → ClassId) (ad : Nat → Nat) (M : Nat → Nat → Int) (N : Nat → Int) (f p0 a : Nat) (hf : f + 6 ≤ 96) (hp : p0 + 6 ≤ 96) (ha : a + 4 ≤ 12) (hR : Rep M N) (hm : ∀ i, i < 4 → -3 ≤ M 8 (a + i) ∧ M 8 (a + i) ≤ 3) (hb : ∀ i, i < 6 → Bn (N (f + i)) 128) (hb2 : ∀ i, i < 6 → Bn (N (p0 + i)) 128) (hdet : 0 < matV (fun i => N (f + i)) (fun i => N (p0 + i)) (fun i => M 8 (a + i)) 4) : Ct (S := Nat → Nat → Int) l D (tyL cs) y_M_matrix b_M_matrix 6 none (rm 7) [.ref (ad 0), .int (iI ((f : Nat) : Int)), .int (iI ((p0 : Nat) : Int)), .int (iI ((a : Nat) : Int))] (wM ad cs M) (fun M1 => ∃ N1, Rep M1 N1 ∧ Sm M M1 ∧ (∀ i, i < 5 → N1 (96 + i) = matG (fun i => N (f + i)) (fun i => N (p0 + i)) (fun i => M 8 (a + i)) i) ∧ ∀ j, j < 96 → N1 j = N j) (fun _ => none) (fun M1 => wM ad cs M1) := by
  refine Ct.introV (by decide) (Nat.le_of_ble_eq_true rfl) (fun _ => rfl) ?_
  intro p e s m below meth c A args Q H locs X hnm hw kr ls hl
  have X : CX D (tyL cs) R_M b_M_matrix 6 p m c s args := X
  have hl : lv_has ls 6 [(0, .ref (ad 0)), (1, .int (iI ((f : Nat) : Int))), (2, .int (iI ((p0 : Nat) : Int))), (3, .int (iI ((a : Nat) : Int)))] := hl
  obtain ⟨U, hU⟩ : ∃ g : Nat → Int, g = fun i => N (f + i) := ⟨_, rfl⟩
  obtain ⟨Pv, hPv⟩ : ∃ g : Nat → Int, g = fun i => N (p0 + i) := ⟨_, rfl⟩
  obtain ⟨C, hC⟩ : ∃ g : Nat → Int, g = fun i => M 8 (a + i) := ⟨_, rfl⟩
  rw [← hU, ← hPv, ← hC] at hdet
  simp only [← hU, ← hPv, ← hC] at kr
  obtain ⟨u0, hu0⟩ : ∃ g, N f = g := ⟨_, rfl⟩
  have bu0 : Bn u0 128 := by rw [← hu0]; exact hb 0 (by decide)
  obtain ⟨u1, hu1⟩ : ∃ g, N (f + 1) = g := ⟨_, rfl⟩
  have bu1 : Bn u1 128 := by rw [← hu1]; exact hb 1 (by decide)
  obtain ⟨u2, hu2⟩ : ∃ g, N (f + 2) = g := ⟨_, rfl⟩
  have bu2 : Bn u2 128 := by rw [← hu2]; exact hb 2 (by decide)
  obtain ⟨u3, hu3⟩ : ∃ g, N (f + 3) = g := ⟨_, rfl⟩
  have bu3 : Bn u3 128 := by rw [← hu3]; exact hb 3 (by decide)
  obtain ⟨u4, hu4⟩ : ∃ g, N (f + 4) = g := ⟨_, rfl⟩
  have bu4 : Bn u4 128 := by rw [← hu4]; exact hb 4 (by decide)
  obtain ⟨u5, hu5⟩ : ∃ g, N (f + 5) = g := ⟨_, rfl⟩
  have bu5 : Bn u5 128 := by rw [← hu5]; exact hb 5 (by decide)
  obtain ⟨v0, hv0⟩ : ∃ g, N p0 = g := ⟨_, rfl⟩
  have bv0 : Bn v0 128 := by rw [← hv0]; exact hb2 0 (by decide)
  obtain ⟨v1, hv1⟩ : ∃ g, N (p0 + 1) = g := ⟨_, rfl⟩
  have bv1 : Bn v1 128 := by rw [← hv1]; exact hb2 1 (by decide)
  obtain ⟨v2, hv2⟩ : ∃ g, N (p0 + 2) = g := ⟨_, rfl⟩
  have bv2 : Bn v2 128 := by rw [← hv2]; exact hb2 2 (by decide)
  obtain ⟨v3, hv3⟩ : ∃ g, N (p0 + 3) = g := ⟨_, rfl⟩
  have bv3 : Bn v3 128 := by rw [← hv3]; exact hb2 3 (by decide)
  obtain ⟨v4, hv4⟩ : ∃ g, N (p0 + 4) = g := ⟨_, rfl⟩
  have bv4 : Bn v4 128 := by rw [← hv4]; exact hb2 4 (by decide)
  obtain ⟨v5, hv5⟩ : ∃ g, N (p0 + 5) = g := ⟨_, rfl⟩
  have bv5 : Bn v5 128 := by rw [← hv5]; exact hb2 5 (by decide)
  obtain ⟨c0, hc0⟩ : ∃ g, M 8 a = g := ⟨_, rfl⟩
  have kc0 : -3 ≤ c0 ∧ c0 ≤ 3 := by rw [← hc0]; exact hm 0 (by decide)
  have bc0 : Bn c0 2 := Bn.of (k := 3) kc0 (by decide)
  obtain ⟨c1, hc1⟩ : ∃ g, M 8 (a + 1) = g := ⟨_, rfl⟩
  have kc1 : -3 ≤ c1 ∧ c1 ≤ 3 := by rw [← hc1]; exact hm 1 (by decide)
  have bc1 : Bn c1 2 := Bn.of (k := 3) kc1 (by decide)
  obtain ⟨c2, hc2⟩ : ∃ g, M 8 (a + 2) = g := ⟨_, rfl⟩
  have kc2 : -3 ≤ c2 ∧ c2 ≤ 3 := by rw [← hc2]; exact hm 2 (by decide)
  have bc2 : Bn c2 2 := Bn.of (k := 3) kc2 (by decide)
  obtain ⟨c3, hc3⟩ : ∃ g, M 8 (a + 3) = g := ⟨_, rfl⟩
  have kc3 : -3 ≤ c3 ∧ c3 ≤ 3 := by rw [← hc3]; exact hm 3 (by decide)
  have bc3 : Bn c3 2 := Bn.of (k := 3) kc3 (by decide)
  have hUi : U 2 = u2 ∧ U 3 = u3 ∧ U 4 = u4 := by rw [hU]; exact ⟨hu2, hu3, hu4⟩
  obtain ⟨U2, U3, U4⟩ := hUi
  have hVi : Pv 2 = v2 ∧ Pv 3 = v3 ∧ Pv 4 = v4 := by rw [hPv]; exact ⟨hv2, hv3, hv4⟩
  obtain ⟨V2, V3, V4⟩ := hVi
  have hCi : C 0 = c0 ∧ C 1 = c1 ∧ C 2 = c2 ∧ C 3 = c3 := by rw [hC]; exact ⟨hc0, hc1, hc2, hc3⟩
  obtain ⟨C0, C1, C2, C3⟩ := hCi
  refine sy_bipush X d_M_matrix_0 (by decide) ?_
  refine sy_istore (lv1 := [(4, .int (iI 110)), (0, .ref (ad 0)), (1, .int (iI ((f : Nat) : Int))), (2, .int (iI ((p0 : Nat) : Int))), (3, .int (iI ((a : Nat) : Int)))]) X d_M_matrix_2 hl (by decide) rfl (fun ls hl => ?_)
  refine sy_iconst X d_M_matrix_4 ?_
  refine sy_istore (lv1 := [(5, .int (iI 0)), (4, .int (iI 110)), (0, .ref (ad 0)), (1, .int (iI ((f : Nat) : Int))), (2, .int (iI ((p0 : Nat) : Int))), (3, .int (iI ((a : Nat) : Int)))]) X d_M_matrix_5 hl (by decide) rfl (fun ls hl => ?_)
  refine sy_iload X d_M_matrix_7 hl 0 rfl ?_
  refine sy_iconst X d_M_matrix_9 ?_
  refine sy_icmp_ge (tgt := 101) X d_M_matrix_10 (by decide) ⟨by decide, by decide⟩ ⟨by decide, by decide⟩ (fun z10 => ?_) (fun z10 => ?_)
  · exact absurd z10 (by decide)
  · refine sy_aload_n X d_M_matrix_13 hl 2 rfl ?_
    refine sy_bipush X d_M_matrix_14 (by decide) ?_
    refine sy_iload X d_M_matrix_16 hl 0 rfl ?_
    refine sy_iadd X d_M_matrix_18 ?_
    refine sy_iload_n X d_M_matrix_19 hl 3 rfl ?_
    refine sy_iconst X d_M_matrix_20 ?_
    refine sy_iadd X d_M_matrix_21 ?_
    refine sy_aload_n X d_M_matrix_22 hl 2 rfl ?_
    refine m_get X hw 10 (by decide) rfl (tt_of k519 rfl) d_M_matrix_23 ?_
    refine sy_iload_n X d_M_matrix_26 hl 5 rfl ?_
    refine sy_iconst X d_M_matrix_27 ?_
    refine sy_iload X d_M_matrix_28 hl 0 rfl ?_
    refine sy_imul X d_M_matrix_30 ?_
    refine sy_iadd X d_M_matrix_31 ?_
    refine m_ald X hw 8 (a + (2 * 0)) (by decide) (by omega) (by simp only [szM]; omega) c0 ((congrFun (Sm.rf M).2.2.2 _).trans hc0) d_M_matrix_32 ?_
    refine sy_iload_n X d_M_matrix_33 hl 3 rfl ?_
    refine sy_iconst X d_M_matrix_34 ?_
    refine sy_iadd X d_M_matrix_35 ?_
    refine sy_aload_n X d_M_matrix_36 hl 2 rfl ?_
    refine m_get X hw 10 (by decide) rfl (tt_of k519 rfl) d_M_matrix_37 ?_
    refine sy_iload_n X d_M_matrix_40 hl 5 rfl ?_
    refine sy_iconst X d_M_matrix_41 ?_
    refine sy_iload X d_M_matrix_42 hl 0 rfl ?_
    refine sy_imul X d_M_matrix_44 ?_
    refine sy_iadd X d_M_matrix_45 ?_
    refine sy_iconst X d_M_matrix_46 ?_
    refine sy_iadd X d_M_matrix_47 ?_
    refine m_ald X hw 8 ((a + (2 * 0)) + 1) (by decide) (by omega) (by simp only [szM]; omega) c1 ((congrFun (Sm.rf M).2.2.2 _).trans hc1) d_M_matrix_48 ?_
    refine sy_iload X d_M_matrix_49 hl 1 rfl ?_
    refine call_Vv (Xs := []) (b := ad 0) (As := [.int (iI (106 + 0)), .int (iI (((f : Nat) : Int) + 2)), .int (iI c0), .int (iI (((f : Nat) : Int) + 3)), .int (iI c1), .int (iI 110)]) (rest := []) X lk_M_126 (c_M_pair l D cs ad M N 106 (f + 2) c0 (f + 3) c1 110 130 130 (by omega) (by omega) (by omega) (by omega) (by omega) (by omega) ⟨by omega, by omega⟩ ⟨by omega, by omega⟩ hR (by rw [hu2]; exact Bn.mul bu2 bc0) (by rw [hu3]; exact Bn.mul bu3 bc1) (by decide) (by decide)) ⟨by decide, by decide⟩ rcv_M hw rfl hl.1 (Nat.le_of_ble_eq_true rfl) d_M_matrix_51 rfl rfl ⟨Nat.zero_le _, Nat.zero_le _⟩ (fun M_2 H locs p_1 hw => ?_)
    obtain ⟨N1, p_1r, p_1s, p_1v, fr1⟩ := p_1
    obtain ⟨w_3, ew_3⟩ : ∃ g, g = u2 * c0 + u3 * c1 := ⟨_, rfl⟩
    have hv_4 : N1 106 = w_3 := by rw [p_1v, hu2, hu3, ew_3]
    have hb_5 : Bn w_3 131 := by rw [ew_3]; exact Bn.add (Bn.mul bu2 bc0) (Bn.mul bu3 bc1)
    refine sy_aload_n X d_M_matrix_54 hl 2 rfl ?_
    refine sy_bipush X d_M_matrix_55 (by decide) ?_
    refine sy_iload X d_M_matrix_57 hl 0 rfl ?_
    refine sy_iadd X d_M_matrix_59 ?_
    refine sy_iload_n X d_M_matrix_60 hl 3 rfl ?_
    refine sy_iconst X d_M_matrix_61 ?_
    refine sy_iadd X d_M_matrix_62 ?_
    refine sy_aload_n X d_M_matrix_63 hl 2 rfl ?_
    refine m_get X hw 10 (by decide) rfl (tt_of k519 rfl) d_M_matrix_64 ?_
    refine sy_iload_n X d_M_matrix_67 hl 5 rfl ?_
    refine sy_iconst X d_M_matrix_68 ?_
    refine sy_iload X d_M_matrix_69 hl 0 rfl ?_
    refine sy_imul X d_M_matrix_71 ?_
    refine sy_iadd X d_M_matrix_72 ?_
    refine m_ald X hw 8 (a + (2 * 0)) (by decide) (by omega) (by simp only [szM]; omega) c0 ((congrFun ((Sm.rf M).tr p_1s).2.2.2 _).trans hc0) d_M_matrix_73 ?_
    refine sy_iload_n X d_M_matrix_74 hl 3 rfl ?_
    refine sy_iconst X d_M_matrix_75 ?_
    refine sy_iadd X d_M_matrix_76 ?_
    refine sy_aload_n X d_M_matrix_77 hl 2 rfl ?_
    refine m_get X hw 10 (by decide) rfl (tt_of k519 rfl) d_M_matrix_78 ?_
    refine sy_iload_n X d_M_matrix_81 hl 5 rfl ?_
    refine sy_iconst X d_M_matrix_82 ?_
    refine sy_iload X d_M_matrix_83 hl 0 rfl ?_
    refine sy_imul X d_M_matrix_85 ?_
    refine sy_iadd X d_M_matrix_86 ?_
    refine sy_iconst X d_M_matrix_87 ?_
    refine sy_iadd X d_M_matrix_88 ?_
    refine m_ald X hw 8 ((a + (2 * 0)) + 1) (by decide) (by omega) (by simp only [szM]; omega) c1 ((congrFun ((Sm.rf M).tr p_1s).2.2.2 _).trans hc1) d_M_matrix_89 ?_
    refine sy_iload X d_M_matrix_90 hl 1 rfl ?_
    have hv_6 : N1 (f + 3) = u3 := (fr1 (f + 3) (by omega) (by omega)).trans (hu3)
    have hv_7 : N1 (f + 4) = u4 := (fr1 (f + 4) (by omega) (by omega)).trans (hu4)
    refine call_Vv (Xs := []) (b := ad 0) (As := [.int (iI (108 + 0)), .int (iI (((f : Nat) : Int) + 3)), .int (iI c0), .int (iI (((f : Nat) : Int) + 4)), .int (iI c1), .int (iI 110)]) (rest := []) X lk_M_126 (c_M_pair l D cs ad M_2 N1 108 (f + 3) c0 (f + 4) c1 110 130 130 (by omega) (by omega) (by omega) (by omega) (by omega) (by omega) ⟨by omega, by omega⟩ ⟨by omega, by omega⟩ p_1r (by rw [hv_6]; exact Bn.mul bu3 bc0) (by rw [hv_7]; exact Bn.mul bu4 bc1) (by decide) (by decide)) ⟨by decide, by decide⟩ rcv_M hw rfl hl.1 (Nat.le_of_ble_eq_true rfl) d_M_matrix_92 rfl rfl ⟨Nat.zero_le _, Nat.zero_le _⟩ (fun M_9 H locs p_8 hw => ?_)
    obtain ⟨N2, p_8r, p_8s, p_8v, fr2⟩ := p_8
    obtain ⟨w_10, ew_10⟩ : ∃ g, g = u3 * c0 + u4 * c1 := ⟨_, rfl⟩
    have hv_11 : N2 108 = w_10 := by rw [p_8v, hv_6, hv_7, ew_10]
    have hb_12 : Bn w_10 131 := by rw [ew_10]; exact Bn.add (Bn.mul bu3 bc0) (Bn.mul bu4 bc1)
    refine sy_iinc (lv1 := [(5, .int (iI 1)), (4, .int (iI 110)), (0, .ref (ad 0)), (1, .int (iI ((f : Nat) : Int))), (2, .int (iI ((p0 : Nat) : Int))), (3, .int (iI ((a : Nat) : Int)))]) X d_M_matrix_95 hl 0 rfl (by omega) (by decide) rfl (fun ls hl => ?_)
    refine sy_goto (tgt := 7) X d_M_matrix_98 (by decide) ?_
    refine sy_iload X d_M_matrix_7 hl 0 rfl ?_
    refine sy_iconst X d_M_matrix_9 ?_
    refine sy_icmp_ge (tgt := 101) X d_M_matrix_10 (by decide) ⟨by decide, by decide⟩ ⟨by decide, by decide⟩ (fun z10 => ?_) (fun z10 => ?_)
    · exact absurd z10 (by decide)
    · refine sy_aload_n X d_M_matrix_13 hl 2 rfl ?_
      refine sy_bipush X d_M_matrix_14 (by decide) ?_
      refine sy_iload X d_M_matrix_16 hl 0 rfl ?_
      refine sy_iadd X d_M_matrix_18 ?_
      refine sy_iload_n X d_M_matrix_19 hl 3 rfl ?_
      refine sy_iconst X d_M_matrix_20 ?_
      refine sy_iadd X d_M_matrix_21 ?_
      refine sy_aload_n X d_M_matrix_22 hl 2 rfl ?_
      refine m_get X hw 10 (by decide) rfl (tt_of k519 rfl) d_M_matrix_23 ?_
      refine sy_iload_n X d_M_matrix_26 hl 5 rfl ?_
      refine sy_iconst X d_M_matrix_27 ?_
      refine sy_iload X d_M_matrix_28 hl 0 rfl ?_
      refine sy_imul X d_M_matrix_30 ?_
      refine sy_iadd X d_M_matrix_31 ?_
      refine m_ald X hw 8 (a + (2 * 1)) (by decide) (by omega) (by simp only [szM]; omega) c2 ((congrFun (((Sm.rf M).tr p_1s).tr p_8s).2.2.2 _).trans hc2) d_M_matrix_32 ?_
      refine sy_iload_n X d_M_matrix_33 hl 3 rfl ?_
      refine sy_iconst X d_M_matrix_34 ?_
      refine sy_iadd X d_M_matrix_35 ?_
      refine sy_aload_n X d_M_matrix_36 hl 2 rfl ?_
      refine m_get X hw 10 (by decide) rfl (tt_of k519 rfl) d_M_matrix_37 ?_
      refine sy_iload_n X d_M_matrix_40 hl 5 rfl ?_
      refine sy_iconst X d_M_matrix_41 ?_
      refine sy_iload X d_M_matrix_42 hl 0 rfl ?_
      refine sy_imul X d_M_matrix_44 ?_
      refine sy_iadd X d_M_matrix_45 ?_
      refine sy_iconst X d_M_matrix_46 ?_
      refine sy_iadd X d_M_matrix_47 ?_
      refine m_ald X hw 8 ((a + (2 * 1)) + 1) (by decide) (by omega) (by simp only [szM]; omega) c3 ((congrFun (((Sm.rf M).tr p_1s).tr p_8s).2.2.2 _).trans hc3) d_M_matrix_48 ?_
      refine sy_iload X d_M_matrix_49 hl 1 rfl ?_
      have hv_13 : N2 (f + 2) = u2 := (fr2 (f + 2) (by omega) (by omega)).trans ((fr1 (f + 2) (by omega) (by omega)).trans (hu2))
      have hv_14 : N2 (f + 3) = u3 := (fr2 (f + 3) (by omega) (by omega)).trans (hv_6)
      refine call_Vv (Xs := []) (b := ad 0) (As := [.int (iI (106 + 1)), .int (iI (((f : Nat) : Int) + 2)), .int (iI c2), .int (iI (((f : Nat) : Int) + 3)), .int (iI c3), .int (iI 110)]) (rest := []) X lk_M_126 (c_M_pair l D cs ad M_9 N2 107 (f + 2) c2 (f + 3) c3 110 130 130 (by omega) (by omega) (by omega) (by omega) (by omega) (by omega) ⟨by omega, by omega⟩ ⟨by omega, by omega⟩ p_8r (by rw [hv_13]; exact Bn.mul bu2 bc2) (by rw [hv_14]; exact Bn.mul bu3 bc3) (by decide) (by decide)) ⟨by decide, by decide⟩ rcv_M hw rfl hl.1 (Nat.le_of_ble_eq_true rfl) d_M_matrix_51 rfl rfl ⟨Nat.zero_le _, Nat.zero_le _⟩ (fun M_16 H locs p_15 hw => ?_)
      obtain ⟨N3, p_15r, p_15s, p_15v, fr3⟩ := p_15
      obtain ⟨w_17, ew_17⟩ : ∃ g, g = u2 * c2 + u3 * c3 := ⟨_, rfl⟩
      have hv_18 : N3 107 = w_17 := by rw [p_15v, hv_13, hv_14, ew_17]
      have hb_19 : Bn w_17 131 := by rw [ew_17]; exact Bn.add (Bn.mul bu2 bc2) (Bn.mul bu3 bc3)
      refine sy_aload_n X d_M_matrix_54 hl 2 rfl ?_
      refine sy_bipush X d_M_matrix_55 (by decide) ?_
      refine sy_iload X d_M_matrix_57 hl 0 rfl ?_
      refine sy_iadd X d_M_matrix_59 ?_
      refine sy_iload_n X d_M_matrix_60 hl 3 rfl ?_
      refine sy_iconst X d_M_matrix_61 ?_
      refine sy_iadd X d_M_matrix_62 ?_
      refine sy_aload_n X d_M_matrix_63 hl 2 rfl ?_
      refine m_get X hw 10 (by decide) rfl (tt_of k519 rfl) d_M_matrix_64 ?_
      refine sy_iload_n X d_M_matrix_67 hl 5 rfl ?_
      refine sy_iconst X d_M_matrix_68 ?_
      refine sy_iload X d_M_matrix_69 hl 0 rfl ?_
      refine sy_imul X d_M_matrix_71 ?_
      refine sy_iadd X d_M_matrix_72 ?_
      refine m_ald X hw 8 (a + (2 * 1)) (by decide) (by omega) (by simp only [szM]; omega) c2 ((congrFun ((((Sm.rf M).tr p_1s).tr p_8s).tr p_15s).2.2.2 _).trans hc2) d_M_matrix_73 ?_
      refine sy_iload_n X d_M_matrix_74 hl 3 rfl ?_
      refine sy_iconst X d_M_matrix_75 ?_
      refine sy_iadd X d_M_matrix_76 ?_
      refine sy_aload_n X d_M_matrix_77 hl 2 rfl ?_
      refine m_get X hw 10 (by decide) rfl (tt_of k519 rfl) d_M_matrix_78 ?_
      refine sy_iload_n X d_M_matrix_81 hl 5 rfl ?_
      refine sy_iconst X d_M_matrix_82 ?_
      refine sy_iload X d_M_matrix_83 hl 0 rfl ?_
      refine sy_imul X d_M_matrix_85 ?_
      refine sy_iadd X d_M_matrix_86 ?_
      refine sy_iconst X d_M_matrix_87 ?_
      refine sy_iadd X d_M_matrix_88 ?_
      refine m_ald X hw 8 ((a + (2 * 1)) + 1) (by decide) (by omega) (by simp only [szM]; omega) c3 ((congrFun ((((Sm.rf M).tr p_1s).tr p_8s).tr p_15s).2.2.2 _).trans hc3) d_M_matrix_89 ?_
      refine sy_iload X d_M_matrix_90 hl 1 rfl ?_
      have hv_20 : N3 (f + 3) = u3 := (fr3 (f + 3) (by omega) (by omega)).trans (hv_14)
      have hv_21 : N3 (f + 4) = u4 := (fr3 (f + 4) (by omega) (by omega)).trans ((fr2 (f + 4) (by omega) (by omega)).trans (hv_7))
      refine call_Vv (Xs := []) (b := ad 0) (As := [.int (iI (108 + 1)), .int (iI (((f : Nat) : Int) + 3)), .int (iI c2), .int (iI (((f : Nat) : Int) + 4)), .int (iI c3), .int (iI 110)]) (rest := []) X lk_M_126 (c_M_pair l D cs ad M_16 N3 109 (f + 3) c2 (f + 4) c3 110 130 130 (by omega) (by omega) (by omega) (by omega) (by omega) (by omega) ⟨by omega, by omega⟩ ⟨by omega, by omega⟩ p_15r (by rw [hv_20]; exact Bn.mul bu3 bc2) (by rw [hv_21]; exact Bn.mul bu4 bc3) (by decide) (by decide)) ⟨by decide, by decide⟩ rcv_M hw rfl hl.1 (Nat.le_of_ble_eq_true rfl) d_M_matrix_92 rfl rfl ⟨Nat.zero_le _, Nat.zero_le _⟩ (fun M_23 H locs p_22 hw => ?_)
      obtain ⟨N4, p_22r, p_22s, p_22v, fr4⟩ := p_22
      obtain ⟨w_24, ew_24⟩ : ∃ g, g = u3 * c2 + u4 * c3 := ⟨_, rfl⟩
      have hv_25 : N4 109 = w_24 := by rw [p_22v, hv_20, hv_21, ew_24]
      have hb_26 : Bn w_24 131 := by rw [ew_24]; exact Bn.add (Bn.mul bu3 bc2) (Bn.mul bu4 bc3)
      refine sy_iinc (lv1 := [(5, .int (iI 2)), (4, .int (iI 110)), (0, .ref (ad 0)), (1, .int (iI ((f : Nat) : Int))), (2, .int (iI ((p0 : Nat) : Int))), (3, .int (iI ((a : Nat) : Int)))]) X d_M_matrix_95 hl 0 rfl (by omega) (by decide) rfl (fun ls hl => ?_)
      refine sy_goto (tgt := 7) X d_M_matrix_98 (by decide) ?_
      refine sy_iload X d_M_matrix_7 hl 0 rfl ?_
      refine sy_iconst X d_M_matrix_9 ?_
      refine sy_icmp_ge (tgt := 101) X d_M_matrix_10 (by decide) ⟨by decide, by decide⟩ ⟨by decide, by decide⟩ (fun z10 => ?_) (fun z10 => ?_)
      · refine sy_iconst X d_M_matrix_101 ?_
        refine sy_istore (lv1 := [(5, .int (iI 0)), (4, .int (iI 110)), (0, .ref (ad 0)), (1, .int (iI ((f : Nat) : Int))), (2, .int (iI ((p0 : Nat) : Int))), (3, .int (iI ((a : Nat) : Int)))]) X d_M_matrix_102 hl (by decide) rfl (fun ls hl => ?_)
        refine sy_iload X d_M_matrix_104 hl 0 rfl ?_
        refine sy_iconst X d_M_matrix_106 ?_
        refine sy_icmp_ge (tgt := 186) X d_M_matrix_107 (by decide) ⟨by decide, by decide⟩ ⟨by decide, by decide⟩ (fun z107 => ?_) (fun z107 => ?_)
        · exact absurd z107 (by decide)
        · refine sy_aload_n X d_M_matrix_110 hl 2 rfl ?_
          refine sy_bipush X d_M_matrix_111 (by decide) ?_
          refine sy_iconst X d_M_matrix_113 ?_
          refine sy_iload X d_M_matrix_114 hl 0 rfl ?_
          refine sy_imul X d_M_matrix_116 ?_
          refine sy_iadd X d_M_matrix_117 ?_
          refine sy_bipush X d_M_matrix_118 (by decide) ?_
          refine sy_iconst X d_M_matrix_120 ?_
          refine sy_iload X d_M_matrix_121 hl 0 rfl ?_
          refine sy_imul X d_M_matrix_123 ?_
          refine sy_iadd X d_M_matrix_124 ?_
          refine sy_iload_n X d_M_matrix_125 hl 4 rfl ?_
          refine sy_iconst X d_M_matrix_126 ?_
          refine sy_iadd X d_M_matrix_127 ?_
          refine sy_bipush X d_M_matrix_128 (by decide) ?_
          refine sy_iconst X d_M_matrix_130 ?_
          refine sy_iload X d_M_matrix_131 hl 0 rfl ?_
          refine sy_imul X d_M_matrix_133 ?_
          refine sy_iadd X d_M_matrix_134 ?_
          refine sy_iload_n X d_M_matrix_135 hl 4 rfl ?_
          refine sy_iconst X d_M_matrix_136 ?_
          refine sy_iadd X d_M_matrix_137 ?_
          refine sy_iconst X d_M_matrix_138 ?_
          refine sy_iload X d_M_matrix_139 hl 1 rfl ?_
          have hv_27 : N4 106 = w_3 := (fr4 106 (by omega) (by omega)).trans ((fr3 106 (by omega) (by omega)).trans ((fr2 106 (by omega) (by omega)).trans (hv_4)))
          have hv_28 : N4 (p0 + 4) = v4 := (fr4 (p0 + 4) (by omega) (by omega)).trans ((fr3 (p0 + 4) (by omega) (by omega)).trans ((fr2 (p0 + 4) (by omega) (by omega)).trans ((fr1 (p0 + 4) (by omega) (by omega)).trans (hv4))))
          have hv_29 : N4 107 = w_17 := (fr4 107 (by omega) (by omega)).trans (hv_18)
          have hv_30 : N4 (p0 + 3) = v3 := (fr4 (p0 + 3) (by omega) (by omega)).trans ((fr3 (p0 + 3) (by omega) (by omega)).trans ((fr2 (p0 + 3) (by omega) (by omega)).trans ((fr1 (p0 + 3) (by omega) (by omega)).trans (hv3))))
          refine call_Vv (Xs := []) (b := ad 0) (As := [.int (iI (96 + (2 * 0))), .int (iI (106 + (2 * 0))), .int (iI (((p0 : Nat) : Int) + 4)), .int (iI (107 + (2 * 0))), .int (iI (((p0 : Nat) : Int) + 3)), .int (iI (-1)), .int (iI 110)]) (rest := []) X lk_M_130 (c_M_crossed l D cs ad M_23 N4 96 106 (p0 + 4) 107 (p0 + 3) (-1) 110 259 259 (by omega) (by omega) (by omega) (by omega) (by omega) (by omega) (by omega) (by omega) (by omega) (by decide) p_22r (by rw [hv_27, hv_28]; exact Bn.mul hb_5 bv4) (by rw [hv_29, hv_30]; exact Bn.mul hb_19 bv3) (by decide) (by decide)) ⟨by decide, by decide⟩ rcv_M hw rfl hl.1 (Nat.le_of_ble_eq_true rfl) d_M_matrix_141 rfl rfl ⟨Nat.zero_le _, Nat.zero_le _⟩ (fun M_32 H locs p_31 hw => ?_)
          obtain ⟨N5, p_31r, p_31s, p_31v, fr5⟩ := p_31
          obtain ⟨w_33, ew_33⟩ : ∃ g, g = w_3 * v4 + (-1) * (w_17 * v3) := ⟨_, rfl⟩
          have hv_34 : N5 96 = w_33 := by rw [p_31v, hv_27, hv_28, hv_29, hv_30, ew_33]
          have hb_35 : Bn w_33 260 := by rw [ew_33]; exact Bn.add (Bn.mul hb_5 bv4) ((Bn.mul hb_19 bv3).sg (by decide))
          refine sy_aload_n X d_M_matrix_144 hl 2 rfl ?_
          refine sy_bipush X d_M_matrix_145 (by decide) ?_
          refine sy_iconst X d_M_matrix_147 ?_
          refine sy_iload X d_M_matrix_148 hl 0 rfl ?_
          refine sy_imul X d_M_matrix_150 ?_
          refine sy_iadd X d_M_matrix_151 ?_
          refine sy_iconst X d_M_matrix_152 ?_
          refine sy_iadd X d_M_matrix_153 ?_
          refine sy_bipush X d_M_matrix_154 (by decide) ?_
          refine sy_iconst X d_M_matrix_156 ?_
          refine sy_iload X d_M_matrix_157 hl 0 rfl ?_
          refine sy_imul X d_M_matrix_159 ?_
          refine sy_iadd X d_M_matrix_160 ?_
          refine sy_iload_n X d_M_matrix_161 hl 4 rfl ?_
          refine sy_iconst X d_M_matrix_162 ?_
          refine sy_iadd X d_M_matrix_163 ?_
          refine sy_bipush X d_M_matrix_164 (by decide) ?_
          refine sy_iconst X d_M_matrix_166 ?_
          refine sy_iload X d_M_matrix_167 hl 0 rfl ?_
          refine sy_imul X d_M_matrix_169 ?_
          refine sy_iadd X d_M_matrix_170 ?_
          refine sy_iload_n X d_M_matrix_171 hl 4 rfl ?_
          refine sy_iconst X d_M_matrix_172 ?_
          refine sy_iadd X d_M_matrix_173 ?_
          refine sy_iconst X d_M_matrix_174 ?_
          refine sy_iload X d_M_matrix_175 hl 1 rfl ?_
          have hv_36 : N5 107 = w_17 := (fr5 107 (by omega) (by omega)).trans (hv_29)
          have hv_37 : N5 (p0 + 2) = v2 := (fr5 (p0 + 2) (by omega) (by omega)).trans ((fr4 (p0 + 2) (by omega) (by omega)).trans ((fr3 (p0 + 2) (by omega) (by omega)).trans ((fr2 (p0 + 2) (by omega) (by omega)).trans ((fr1 (p0 + 2) (by omega) (by omega)).trans (hv2)))))
          have hv_38 : N5 106 = w_3 := (fr5 106 (by omega) (by omega)).trans (hv_27)
          have hv_39 : N5 (p0 + 3) = v3 := (fr5 (p0 + 3) (by omega) (by omega)).trans (hv_30)
          refine call_Vv (Xs := []) (b := ad 0) (As := [.int (iI ((96 + (2 * 0)) + 1)), .int (iI (107 + (2 * 0))), .int (iI (((p0 : Nat) : Int) + 2)), .int (iI (106 + (2 * 0))), .int (iI (((p0 : Nat) : Int) + 3)), .int (iI (-1)), .int (iI 110)]) (rest := []) X lk_M_130 (c_M_crossed l D cs ad M_32 N5 97 107 (p0 + 2) 106 (p0 + 3) (-1) 110 259 259 (by omega) (by omega) (by omega) (by omega) (by omega) (by omega) (by omega) (by omega) (by omega) (by decide) p_31r (by rw [hv_36, hv_37]; exact Bn.mul hb_19 bv2) (by rw [hv_38, hv_39]; exact Bn.mul hb_5 bv3) (by decide) (by decide)) ⟨by decide, by decide⟩ rcv_M hw rfl hl.1 (Nat.le_of_ble_eq_true rfl) d_M_matrix_177 rfl rfl ⟨Nat.zero_le _, Nat.zero_le _⟩ (fun M_41 H locs p_40 hw => ?_)
          obtain ⟨N6, p_40r, p_40s, p_40v, fr6⟩ := p_40
          obtain ⟨w_42, ew_42⟩ : ∃ g, g = w_17 * v2 + (-1) * (w_3 * v3) := ⟨_, rfl⟩
          have hv_43 : N6 97 = w_42 := by rw [p_40v, hv_36, hv_37, hv_38, hv_39, ew_42]
          have hb_44 : Bn w_42 260 := by rw [ew_42]; exact Bn.add (Bn.mul hb_19 bv2) ((Bn.mul hb_5 bv3).sg (by decide))
          refine sy_iinc (lv1 := [(5, .int (iI 1)), (4, .int (iI 110)), (0, .ref (ad 0)), (1, .int (iI ((f : Nat) : Int))), (2, .int (iI ((p0 : Nat) : Int))), (3, .int (iI ((a : Nat) : Int)))]) X d_M_matrix_180 hl 0 rfl (by omega) (by decide) rfl (fun ls hl => ?_)
          refine sy_goto (tgt := 104) X d_M_matrix_183 (by decide) ?_
          refine sy_iload X d_M_matrix_104 hl 0 rfl ?_
          refine sy_iconst X d_M_matrix_106 ?_
          refine sy_icmp_ge (tgt := 186) X d_M_matrix_107 (by decide) ⟨by decide, by decide⟩ ⟨by decide, by decide⟩ (fun z107 => ?_) (fun z107 => ?_)
          · exact absurd z107 (by decide)
          · refine sy_aload_n X d_M_matrix_110 hl 2 rfl ?_
            refine sy_bipush X d_M_matrix_111 (by decide) ?_
            refine sy_iconst X d_M_matrix_113 ?_
            refine sy_iload X d_M_matrix_114 hl 0 rfl ?_
            refine sy_imul X d_M_matrix_116 ?_
            refine sy_iadd X d_M_matrix_117 ?_
            refine sy_bipush X d_M_matrix_118 (by decide) ?_
            refine sy_iconst X d_M_matrix_120 ?_
            refine sy_iload X d_M_matrix_121 hl 0 rfl ?_
            refine sy_imul X d_M_matrix_123 ?_
            refine sy_iadd X d_M_matrix_124 ?_
            refine sy_iload_n X d_M_matrix_125 hl 4 rfl ?_
            refine sy_iconst X d_M_matrix_126 ?_
            refine sy_iadd X d_M_matrix_127 ?_
            refine sy_bipush X d_M_matrix_128 (by decide) ?_
            refine sy_iconst X d_M_matrix_130 ?_
            refine sy_iload X d_M_matrix_131 hl 0 rfl ?_
            refine sy_imul X d_M_matrix_133 ?_
            refine sy_iadd X d_M_matrix_134 ?_
            refine sy_iload_n X d_M_matrix_135 hl 4 rfl ?_
            refine sy_iconst X d_M_matrix_136 ?_
            refine sy_iadd X d_M_matrix_137 ?_
            refine sy_iconst X d_M_matrix_138 ?_
            refine sy_iload X d_M_matrix_139 hl 1 rfl ?_
            have hv_45 : N6 108 = w_10 := (fr6 108 (by omega) (by omega)).trans ((fr5 108 (by omega) (by omega)).trans ((fr4 108 (by omega) (by omega)).trans ((fr3 108 (by omega) (by omega)).trans (hv_11))))
            have hv_46 : N6 (p0 + 4) = v4 := (fr6 (p0 + 4) (by omega) (by omega)).trans ((fr5 (p0 + 4) (by omega) (by omega)).trans (hv_28))
            have hv_47 : N6 109 = w_24 := (fr6 109 (by omega) (by omega)).trans ((fr5 109 (by omega) (by omega)).trans (hv_25))
            have hv_48 : N6 (p0 + 3) = v3 := (fr6 (p0 + 3) (by omega) (by omega)).trans (hv_39)
            refine call_Vv (Xs := []) (b := ad 0) (As := [.int (iI (96 + (2 * 1))), .int (iI (106 + (2 * 1))), .int (iI (((p0 : Nat) : Int) + 4)), .int (iI (107 + (2 * 1))), .int (iI (((p0 : Nat) : Int) + 3)), .int (iI (-1)), .int (iI 110)]) (rest := []) X lk_M_130 (c_M_crossed l D cs ad M_41 N6 98 108 (p0 + 4) 109 (p0 + 3) (-1) 110 259 259 (by omega) (by omega) (by omega) (by omega) (by omega) (by omega) (by omega) (by omega) (by omega) (by decide) p_40r (by rw [hv_45, hv_46]; exact Bn.mul hb_12 bv4) (by rw [hv_47, hv_48]; exact Bn.mul hb_26 bv3) (by decide) (by decide)) ⟨by decide, by decide⟩ rcv_M hw rfl hl.1 (Nat.le_of_ble_eq_true rfl) d_M_matrix_141 rfl rfl ⟨Nat.zero_le _, Nat.zero_le _⟩ (fun M_50 H locs p_49 hw => ?_)
            obtain ⟨N7, p_49r, p_49s, p_49v, fr7⟩ := p_49
            obtain ⟨w_51, ew_51⟩ : ∃ g, g = w_10 * v4 + (-1) * (w_24 * v3) := ⟨_, rfl⟩
            have hv_52 : N7 98 = w_51 := by rw [p_49v, hv_45, hv_46, hv_47, hv_48, ew_51]
            have hb_53 : Bn w_51 260 := by rw [ew_51]; exact Bn.add (Bn.mul hb_12 bv4) ((Bn.mul hb_26 bv3).sg (by decide))
            refine sy_aload_n X d_M_matrix_144 hl 2 rfl ?_
            refine sy_bipush X d_M_matrix_145 (by decide) ?_
            refine sy_iconst X d_M_matrix_147 ?_
            refine sy_iload X d_M_matrix_148 hl 0 rfl ?_
            refine sy_imul X d_M_matrix_150 ?_
            refine sy_iadd X d_M_matrix_151 ?_
            refine sy_iconst X d_M_matrix_152 ?_
            refine sy_iadd X d_M_matrix_153 ?_
            refine sy_bipush X d_M_matrix_154 (by decide) ?_
            refine sy_iconst X d_M_matrix_156 ?_
            refine sy_iload X d_M_matrix_157 hl 0 rfl ?_
            refine sy_imul X d_M_matrix_159 ?_
            refine sy_iadd X d_M_matrix_160 ?_
            refine sy_iload_n X d_M_matrix_161 hl 4 rfl ?_
            refine sy_iconst X d_M_matrix_162 ?_
            refine sy_iadd X d_M_matrix_163 ?_
            refine sy_bipush X d_M_matrix_164 (by decide) ?_
            refine sy_iconst X d_M_matrix_166 ?_
            refine sy_iload X d_M_matrix_167 hl 0 rfl ?_
            refine sy_imul X d_M_matrix_169 ?_
            refine sy_iadd X d_M_matrix_170 ?_
            refine sy_iload_n X d_M_matrix_171 hl 4 rfl ?_
            refine sy_iconst X d_M_matrix_172 ?_
            refine sy_iadd X d_M_matrix_173 ?_
            refine sy_iconst X d_M_matrix_174 ?_
            refine sy_iload X d_M_matrix_175 hl 1 rfl ?_
            have hv_54 : N7 109 = w_24 := (fr7 109 (by omega) (by omega)).trans (hv_47)
            have hv_55 : N7 (p0 + 2) = v2 := (fr7 (p0 + 2) (by omega) (by omega)).trans ((fr6 (p0 + 2) (by omega) (by omega)).trans (hv_37))
            have hv_56 : N7 108 = w_10 := (fr7 108 (by omega) (by omega)).trans (hv_45)
            have hv_57 : N7 (p0 + 3) = v3 := (fr7 (p0 + 3) (by omega) (by omega)).trans (hv_48)
            refine call_Vv (Xs := []) (b := ad 0) (As := [.int (iI ((96 + (2 * 1)) + 1)), .int (iI (107 + (2 * 1))), .int (iI (((p0 : Nat) : Int) + 2)), .int (iI (106 + (2 * 1))), .int (iI (((p0 : Nat) : Int) + 3)), .int (iI (-1)), .int (iI 110)]) (rest := []) X lk_M_130 (c_M_crossed l D cs ad M_50 N7 99 109 (p0 + 2) 108 (p0 + 3) (-1) 110 259 259 (by omega) (by omega) (by omega) (by omega) (by omega) (by omega) (by omega) (by omega) (by omega) (by decide) p_49r (by rw [hv_54, hv_55]; exact Bn.mul hb_26 bv2) (by rw [hv_56, hv_57]; exact Bn.mul hb_12 bv3) (by decide) (by decide)) ⟨by decide, by decide⟩ rcv_M hw rfl hl.1 (Nat.le_of_ble_eq_true rfl) d_M_matrix_177 rfl rfl ⟨Nat.zero_le _, Nat.zero_le _⟩ (fun M_59 H locs p_58 hw => ?_)
            obtain ⟨N8, p_58r, p_58s, p_58v, fr8⟩ := p_58
            obtain ⟨w_60, ew_60⟩ : ∃ g, g = w_24 * v2 + (-1) * (w_10 * v3) := ⟨_, rfl⟩
            have hv_61 : N8 99 = w_60 := by rw [p_58v, hv_54, hv_55, hv_56, hv_57, ew_60]
            have hb_62 : Bn w_60 260 := by rw [ew_60]; exact Bn.add (Bn.mul hb_26 bv2) ((Bn.mul hb_12 bv3).sg (by decide))
            refine sy_iinc (lv1 := [(5, .int (iI 2)), (4, .int (iI 110)), (0, .ref (ad 0)), (1, .int (iI ((f : Nat) : Int))), (2, .int (iI ((p0 : Nat) : Int))), (3, .int (iI ((a : Nat) : Int)))]) X d_M_matrix_180 hl 0 rfl (by omega) (by decide) rfl (fun ls hl => ?_)
            refine sy_goto (tgt := 104) X d_M_matrix_183 (by decide) ?_
            refine sy_iload X d_M_matrix_104 hl 0 rfl ?_
            refine sy_iconst X d_M_matrix_106 ?_
            refine sy_icmp_ge (tgt := 186) X d_M_matrix_107 (by decide) ⟨by decide, by decide⟩ ⟨by decide, by decide⟩ (fun z107 => ?_) (fun z107 => ?_)
            · refine sy_aload_n X d_M_matrix_186 hl 2 rfl ?_
              refine sy_bipush X d_M_matrix_187 (by decide) ?_
              refine sy_iload_n X d_M_matrix_189 hl 4 rfl ?_
              refine sy_iconst X d_M_matrix_190 ?_
              refine sy_iadd X d_M_matrix_191 ?_
              refine sy_iload_n X d_M_matrix_192 hl 4 rfl ?_
              refine sy_iconst X d_M_matrix_193 ?_
              refine sy_iadd X d_M_matrix_194 ?_
              refine sy_iload_n X d_M_matrix_195 hl 4 rfl ?_
              refine sy_iconst X d_M_matrix_196 ?_
              refine sy_iadd X d_M_matrix_197 ?_
              refine sy_iload_n X d_M_matrix_198 hl 4 rfl ?_
              refine sy_iconst X d_M_matrix_199 ?_
              refine sy_iadd X d_M_matrix_200 ?_
              refine sy_iconst X d_M_matrix_201 ?_
              refine sy_iload X d_M_matrix_202 hl 1 rfl ?_
              have hv_63 : N8 (p0 + 2) = v2 := (fr8 (p0 + 2) (by omega) (by omega)).trans (hv_55)
              have hv_64 : N8 (p0 + 4) = v4 := (fr8 (p0 + 4) (by omega) (by omega)).trans ((fr7 (p0 + 4) (by omega) (by omega)).trans (hv_46))
              have hv_65 : N8 (p0 + 3) = v3 := (fr8 (p0 + 3) (by omega) (by omega)).trans (hv_57)
              refine call_Vv (Xs := []) (b := ad 0) (As := [.int (iI 100), .int (iI (((p0 : Nat) : Int) + 2)), .int (iI (((p0 : Nat) : Int) + 4)), .int (iI (((p0 : Nat) : Int) + 3)), .int (iI (((p0 : Nat) : Int) + 3)), .int (iI (-1)), .int (iI 110)]) (rest := []) X lk_M_130 (c_M_crossed l D cs ad M_59 N8 100 (p0 + 2) (p0 + 4) (p0 + 3) (p0 + 3) (-1) 110 256 256 (by omega) (by omega) (by omega) (by omega) (by omega) (by omega) (by omega) (by omega) (by omega) (by decide) p_58r (by rw [hv_63, hv_64]; exact Bn.mul bv2 bv4) (by rw [hv_65]; exact Bn.mul bv3 bv3) (by decide) (by decide)) ⟨by decide, by decide⟩ rcv_M hw rfl hl.1 (Nat.le_of_ble_eq_true rfl) d_M_matrix_204 rfl rfl ⟨Nat.zero_le _, Nat.zero_le _⟩ (fun M_67 H locs p_66 hw => ?_)
              obtain ⟨N9, p_66r, p_66s, p_66v, fr9⟩ := p_66
              obtain ⟨w_68, ew_68⟩ : ∃ g, g = v2 * v4 + (-1) * (v3 * v3) := ⟨_, rfl⟩
              have hv_69 : N9 100 = w_68 := by rw [p_66v, hv_63, hv_64, hv_65, ew_68]
              have hb_70 : Bn w_68 257 := by rw [ew_68]; exact Bn.add (Bn.mul bv2 bv4) ((Bn.mul bv3 bv3).sg (by decide))
              refine sy_aload_n X d_M_matrix_207 hl 2 rfl ?_
              refine sy_bipush X d_M_matrix_208 (by decide) ?_
              refine sy_iconst X d_M_matrix_210 ?_
              have hv_71 : N9 96 = w_33 := (fr9 96 (by omega) (by omega)).trans ((fr8 96 (by omega) (by omega)).trans ((fr7 96 (by omega) (by omega)).trans ((fr6 96 (by omega) (by omega)).trans (hv_34))))
              have hv_72 : N9 97 = w_42 := (fr9 97 (by omega) (by omega)).trans ((fr8 97 (by omega) (by omega)).trans ((fr7 97 (by omega) (by omega)).trans (hv_43)))
              have hv_73 : N9 98 = w_51 := (fr9 98 (by omega) (by omega)).trans ((fr8 98 (by omega) (by omega)).trans (hv_52))
              have hv_74 : N9 99 = w_60 := (fr9 99 (by omega) (by omega)).trans (hv_61)
              have hV0 : N9 (96 + 0) = matV U Pv C 0 := by
                simp only [matV, U2, U3, U4, V2, V3, V4, C0, C1, C2, C3]
                rw [show 96 + 0 = 96 from rfl, hv_71]
                simp only [ew_68, ew_60, ew_51, ew_42, ew_33, ew_24, ew_17, ew_10, ew_3]
              have hV1 : N9 (96 + 1) = matV U Pv C 1 := by
                simp only [matV, U2, U3, U4, V2, V3, V4, C0, C1, C2, C3]
                rw [show 96 + 1 = 97 from rfl, hv_72]
                simp only [ew_68, ew_60, ew_51, ew_42, ew_33, ew_24, ew_17, ew_10, ew_3]
              have hV2 : N9 (96 + 2) = matV U Pv C 2 := by
                simp only [matV, U2, U3, U4, V2, V3, V4, C0, C1, C2, C3]
                rw [show 96 + 2 = 98 from rfl, hv_73]
                simp only [ew_68, ew_60, ew_51, ew_42, ew_33, ew_24, ew_17, ew_10, ew_3]
              have hV3 : N9 (96 + 3) = matV U Pv C 3 := by
                simp only [matV, U2, U3, U4, V2, V3, V4, C0, C1, C2, C3]
                rw [show 96 + 3 = 99 from rfl, hv_74]
                simp only [ew_68, ew_60, ew_51, ew_42, ew_33, ew_24, ew_17, ew_10, ew_3]
              have hV4 : N9 (96 + 4) = matV U Pv C 4 := by
                simp only [matV, U2, U3, U4, V2, V3, V4, C0, C1, C2, C3]
                rw [show 96 + 4 = 100 from rfl, hv_69]
                simp only [ew_68, ew_60, ew_51, ew_42, ew_33, ew_24, ew_17, ew_10, ew_3]
              have hVa : ∀ i, i < 5 → N9 (96 + i) = matV U Pv C i := fun i hi => by
                have : i = 0 ∨ i = 1 ∨ i = 2 ∨ i = 3 ∨ i = 4 := by omega
                rcases this with e | e | e | e | e <;> subst e <;> assumption
              refine call_Vv (Xs := []) (b := ad 0) (As := [.int (iI 96), .int (iI 5)]) (rest := []) X lk_M_123 (c_M_shrink l D cs ad M_67 N9 96 5 (by decide) (by decide) p_66r (by rw [show 96 + 5 - 1 = 96 + 4 from rfl, hV4]; exact hdet)) ⟨by decide, by decide⟩ rcv_M hw rfl hl.1 (Nat.le_of_ble_eq_true rfl) d_M_matrix_211 rfl rfl ⟨Nat.zero_le _, Nat.zero_le _⟩ (fun Mz H locs pz hw => ?_)
              obtain ⟨Nz, pzr, pzs, pzv⟩ := pz
              have hG : gF (N9 (96 + 5 - 1)) (fun i => N9 (96 + i)) (5 - 1) = gF (matV U Pv C 4) (matV U Pv C) 4 := by
                rw [show 96 + 5 - 1 = 96 + 4 from rfl, hV4]; exact gF_congr (fun i hi => hVa i (by omega))
              rw [hG] at pzv
              exact kr Mz _ _ _ _ d_M_matrix_214 hw ⟨Nz, pzr, ((((((((((Sm.rf M).tr p_1s).tr p_8s).tr p_15s).tr p_22s).tr p_31s).tr p_40s).tr p_49s).tr p_58s).tr p_66s).tr pzs, fun i hi => by rw [pzv _ (by omega), if_pos (by omega), hVa i hi, matG], fun j hj => by rw [pzv j (by omega), if_neg (by omega)]; exact (fr9 j (by omega) (by omega)).trans ((fr8 j (by omega) (by omega)).trans ((fr7 j (by omega) (by omega)).trans ((fr6 j (by omega) (by omega)).trans ((fr5 j (by omega) (by omega)).trans ((fr4 j (by omega) (by omega)).trans ((fr3 j (by omega) (by omega)).trans ((fr2 j (by omega) (by omega)).trans ((fr1 j (by omega) (by omega)).trans (rfl)))))))))⟩
            · exact absurd z107 (by decide)
      · exact absurd z10 (by decide)
/-- the six numbers of a smoothed time, before they are shrunk: u filtered, p predicted and x smoothed of the next, g the matrix -/
def smW (u p x g : Nat → Int) : Nat → Int := fun i => match i with
  | 0 => (g 0 * (x 0 * p 5 + -1 * (p 0 * x 5)) + 1 * (g 1 * (x 1 * p 5 + -1 * (p 1 * x 5)))) * g 4 + 1 * (u 0 * (g 4 * g 4 * x 5))
  | 1 => (g 2 * (x 0 * p 5 + -1 * (p 0 * x 5)) + 1 * (g 3 * (x 1 * p 5 + -1 * (p 1 * x 5)))) * g 4 + 1 * (u 1 * (g 4 * g 4 * x 5))
  | 2 => (g 0 * (x 2 * p 5 + -1 * (p 2 * x 5)) + 1 * (g 1 * (x 3 * p 5 + -1 * (p 3 * x 5)))) * g 0 + 1 * ((g 0 * (x 3 * p 5 + -1 * (p 3 * x 5)) + 1 * (g 1 * (x 4 * p 5 + -1 * (p 4 * x 5)))) * g 1) + 1 * (u 2 * (g 4 * g 4 * x 5))
  | 3 => (g 0 * (x 2 * p 5 + -1 * (p 2 * x 5)) + 1 * (g 1 * (x 3 * p 5 + -1 * (p 3 * x 5)))) * g 2 + 1 * ((g 0 * (x 3 * p 5 + -1 * (p 3 * x 5)) + 1 * (g 1 * (x 4 * p 5 + -1 * (p 4 * x 5)))) * g 3) + 1 * (u 3 * (g 4 * g 4 * x 5))
  | 4 => (g 2 * (x 2 * p 5 + -1 * (p 2 * x 5)) + 1 * (g 3 * (x 3 * p 5 + -1 * (p 3 * x 5)))) * g 2 + 1 * ((g 2 * (x 3 * p 5 + -1 * (p 3 * x 5)) + 1 * (g 3 * (x 4 * p 5 + -1 * (p 4 * x 5)))) * g 3) + 1 * (u 4 * (g 4 * g 4 * x 5))
  | _ => g 4 * g 4 * x 5 * u 5
def smV (u p x c : Nat → Int) : Nat → Int := smW u p x (matG u p c)
set_option maxRecDepth 100000 in
set_option maxHeartbeats 4000000 in
theorem c_M_smoothAt (l : Launch) (D : va_G) (cs : Nat → ClassId) (ad : Nat → Nat) (M : Nat → Nat → Int) (N : Nat → Int) (t : Nat) (ht : t ≤ 2) (hR : Rep M N) (hm : ∀ i, i < 4 → -3 ≤ M 8 (4 * t + i) ∧ M 8 (4 * t + i) ≤ 3) (hb : ∀ i, i < 6 → Bn (N (24 + 6 * t + i)) 128) (hb2 : ∀ i, i < 6 → Bn (N (6 * t + 6 + i)) 128) (hb3 : ∀ i, i < 6 → Bn (N (48 + 6 * t + 6 + i)) 128) (hdet : 0 < matV (fun i => N (24 + 6 * t + i)) (fun i => N (6 * t + 6 + i)) (fun i => M 8 (4 * t + i)) 4) (hu0p : 0 < N (24 + 6 * t + 5)) (hx0p : 0 < N (48 + 6 * t + 6 + 5)) : Ct (S := Nat → Nat → Int) l D (tyL cs) y_M_smoothAt b_M_smoothAt 10 none (rm 8) [.ref (ad 0), .int (iI ((t : Nat) : Int))] (wM ad cs M) (fun M1 => ∃ N1, Rep M1 N1 ∧ Sm M M1 ∧ Shr (smV (fun i => N (24 + 6 * t + i)) (fun i => N (6 * t + 6 + i)) (fun i => N (48 + 6 * t + 6 + i)) (fun i => M 8 (4 * t + i))) (fun i => N1 (48 + 6 * t + i)) ∧ ∀ j, j < 96 → (j < 48 + 6 * t ∨ 48 + 6 * t + 6 ≤ j) → N1 j = N j) (fun _ => none) (fun M1 => wM ad cs M1) := by
  refine Ct.introV (by decide) (Nat.le_of_ble_eq_true rfl) (fun _ => rfl) ?_
  intro p e s m below meth c A args Q H locs X hnm hw kr ls hl
  have X : CX D (tyL cs) R_M b_M_smoothAt 10 p m c s args := X
  have hl : lv_has ls 10 [(0, .ref (ad 0)), (1, .int (iI ((t : Nat) : Int)))] := hl
  obtain ⟨f, hf⟩ : ∃ g, g = 24 + 6 * t := ⟨_, rfl⟩
  obtain ⟨pp, hpp⟩ : ∃ g, g = 6 * t + 6 := ⟨_, rfl⟩
  obtain ⟨xx, hxx⟩ : ∃ g, g = 48 + 6 * t + 6 := ⟨_, rfl⟩
  obtain ⟨zz, hzz⟩ : ∃ g, g = 48 + 6 * t := ⟨_, rfl⟩
  obtain ⟨aa, haa⟩ : ∃ g, g = 4 * t := ⟨_, rfl⟩
  rw [← hf] at hb hu0p hdet
  rw [← hpp] at hb2 hdet
  rw [← hxx] at hb3 hx0p
  rw [← haa] at hdet hm
  simp only [← hxx, ← hf, ← hpp, ← haa] at kr
  simp only [← hzz] at kr
  obtain ⟨u0, hu0⟩ : ∃ g, N f = g := ⟨_, rfl⟩
  have bu0 : Bn u0 128 := by rw [← hu0]; exact hb 0 (by decide)
  obtain ⟨u1, hu1⟩ : ∃ g, N (f + 1) = g := ⟨_, rfl⟩
  have bu1 : Bn u1 128 := by rw [← hu1]; exact hb 1 (by decide)
  obtain ⟨u2, hu2⟩ : ∃ g, N (f + 2) = g := ⟨_, rfl⟩
  have bu2 : Bn u2 128 := by rw [← hu2]; exact hb 2 (by decide)
  obtain ⟨u3, hu3⟩ : ∃ g, N (f + 3) = g := ⟨_, rfl⟩
  have bu3 : Bn u3 128 := by rw [← hu3]; exact hb 3 (by decide)
  obtain ⟨u4, hu4⟩ : ∃ g, N (f + 4) = g := ⟨_, rfl⟩
  have bu4 : Bn u4 128 := by rw [← hu4]; exact hb 4 (by decide)
  obtain ⟨u5, hu5⟩ : ∃ g, N (f + 5) = g := ⟨_, rfl⟩
  have bu5 : Bn u5 128 := by rw [← hu5]; exact hb 5 (by decide)
  obtain ⟨v0, hv0⟩ : ∃ g, N pp = g := ⟨_, rfl⟩
  have bv0 : Bn v0 128 := by rw [← hv0]; exact hb2 0 (by decide)
  obtain ⟨v1, hv1⟩ : ∃ g, N (pp + 1) = g := ⟨_, rfl⟩
  have bv1 : Bn v1 128 := by rw [← hv1]; exact hb2 1 (by decide)
  obtain ⟨v2, hv2⟩ : ∃ g, N (pp + 2) = g := ⟨_, rfl⟩
  have bv2 : Bn v2 128 := by rw [← hv2]; exact hb2 2 (by decide)
  obtain ⟨v3, hv3⟩ : ∃ g, N (pp + 3) = g := ⟨_, rfl⟩
  have bv3 : Bn v3 128 := by rw [← hv3]; exact hb2 3 (by decide)
  obtain ⟨v4, hv4⟩ : ∃ g, N (pp + 4) = g := ⟨_, rfl⟩
  have bv4 : Bn v4 128 := by rw [← hv4]; exact hb2 4 (by decide)
  obtain ⟨v5, hv5⟩ : ∃ g, N (pp + 5) = g := ⟨_, rfl⟩
  have bv5 : Bn v5 128 := by rw [← hv5]; exact hb2 5 (by decide)
  obtain ⟨x0, hx0⟩ : ∃ g, N xx = g := ⟨_, rfl⟩
  have bx0 : Bn x0 128 := by rw [← hx0]; exact hb3 0 (by decide)
  obtain ⟨x1, hx1⟩ : ∃ g, N (xx + 1) = g := ⟨_, rfl⟩
  have bx1 : Bn x1 128 := by rw [← hx1]; exact hb3 1 (by decide)
  obtain ⟨x2, hx2⟩ : ∃ g, N (xx + 2) = g := ⟨_, rfl⟩
  have bx2 : Bn x2 128 := by rw [← hx2]; exact hb3 2 (by decide)
  obtain ⟨x3, hx3⟩ : ∃ g, N (xx + 3) = g := ⟨_, rfl⟩
  have bx3 : Bn x3 128 := by rw [← hx3]; exact hb3 3 (by decide)
  obtain ⟨x4, hx4⟩ : ∃ g, N (xx + 4) = g := ⟨_, rfl⟩
  have bx4 : Bn x4 128 := by rw [← hx4]; exact hb3 4 (by decide)
  obtain ⟨x5, hx5⟩ : ∃ g, N (xx + 5) = g := ⟨_, rfl⟩
  have bx5 : Bn x5 128 := by rw [← hx5]; exact hb3 5 (by decide)
  obtain ⟨U, hU⟩ : ∃ g : Nat → Int, g = fun i => N (f + i) := ⟨_, rfl⟩
  obtain ⟨Pv, hPv⟩ : ∃ g : Nat → Int, g = fun i => N (pp + i) := ⟨_, rfl⟩
  obtain ⟨Xv, hXv⟩ : ∃ g : Nat → Int, g = fun i => N (xx + i) := ⟨_, rfl⟩
  obtain ⟨C, hC⟩ : ∃ g : Nat → Int, g = fun i => M 8 (aa + i) := ⟨_, rfl⟩
  rw [← hU, ← hPv, ← hC] at hdet
  simp only [← hU, ← hPv, ← hXv, ← hC] at kr
  have hUi : U 0 = u0 ∧ U 1 = u1 ∧ U 2 = u2 ∧ U 3 = u3 ∧ U 4 = u4 ∧ U 5 = u5 := by rw [hU]; exact ⟨hu0, hu1, hu2, hu3, hu4, hu5⟩
  obtain ⟨U0_, U1_, U2_, U3_, U4_, U5_⟩ := hUi
  have hPvi : Pv 0 = v0 ∧ Pv 1 = v1 ∧ Pv 2 = v2 ∧ Pv 3 = v3 ∧ Pv 4 = v4 ∧ Pv 5 = v5 := by rw [hPv]; exact ⟨hv0, hv1, hv2, hv3, hv4, hv5⟩
  obtain ⟨Pv0_, Pv1_, Pv2_, Pv3_, Pv4_, Pv5_⟩ := hPvi
  have hXvi : Xv 0 = x0 ∧ Xv 1 = x1 ∧ Xv 2 = x2 ∧ Xv 3 = x3 ∧ Xv 4 = x4 ∧ Xv 5 = x5 := by rw [hXv]; exact ⟨hx0, hx1, hx2, hx3, hx4, hx5⟩
  obtain ⟨Xv0_, Xv1_, Xv2_, Xv3_, Xv4_, Xv5_⟩ := hXvi
  rw [hu5] at hu0p
  rw [hx5] at hx0p
  refine sy_bipush X d_M_smoothAt_0 (by decide) ?_
  refine sy_bipush X d_M_smoothAt_2 (by decide) ?_
  refine sy_iload_n X d_M_smoothAt_4 hl 1 rfl ?_
  refine sy_imul X d_M_smoothAt_5 ?_
  refine sy_iadd X d_M_smoothAt_6 ?_
  rw [show ((24 : Int) + 6 * (t : Int)) = ((f : Nat) : Int) by omega]
  refine sy_istore_n (lv1 := [(2, .int (iI ((f : Nat) : Int))), (0, .ref (ad 0)), (1, .int (iI ((t : Nat) : Int)))]) X d_M_smoothAt_7 hl rfl (by decide) rfl (fun ls hl => ?_)
  refine sy_iconst X d_M_smoothAt_8 ?_
  refine sy_bipush X d_M_smoothAt_9 (by decide) ?_
  refine sy_iload_n X d_M_smoothAt_11 hl 2 rfl ?_
  refine sy_imul X d_M_smoothAt_12 ?_
  refine sy_iadd X d_M_smoothAt_13 ?_
  refine sy_bipush X d_M_smoothAt_14 (by decide) ?_
  refine sy_iadd X d_M_smoothAt_16 ?_
  rw [show ((0 : Int) + 6 * (t : Int) + 6) = ((pp : Nat) : Int) by omega]
  refine sy_istore_n (lv1 := [(3, .int (iI ((pp : Nat) : Int))), (2, .int (iI ((f : Nat) : Int))), (0, .ref (ad 0)), (1, .int (iI ((t : Nat) : Int)))]) X d_M_smoothAt_17 hl rfl (by decide) rfl (fun ls hl => ?_)
  refine sy_bipush X d_M_smoothAt_18 (by decide) ?_
  refine sy_bipush X d_M_smoothAt_20 (by decide) ?_
  refine sy_iload_n X d_M_smoothAt_22 hl 3 rfl ?_
  refine sy_imul X d_M_smoothAt_23 ?_
  refine sy_iadd X d_M_smoothAt_24 ?_
  refine sy_bipush X d_M_smoothAt_25 (by decide) ?_
  refine sy_iadd X d_M_smoothAt_27 ?_
  rw [show ((48 : Int) + 6 * (t : Int) + 6) = ((xx : Nat) : Int) by omega]
  refine sy_istore (lv1 := [(4, .int (iI ((xx : Nat) : Int))), (3, .int (iI ((pp : Nat) : Int))), (2, .int (iI ((f : Nat) : Int))), (0, .ref (ad 0)), (1, .int (iI ((t : Nat) : Int)))]) X d_M_smoothAt_28 hl (by decide) rfl (fun ls hl => ?_)
  refine sy_bipush X d_M_smoothAt_30 (by decide) ?_
  refine sy_bipush X d_M_smoothAt_32 (by decide) ?_
  refine sy_iload_n X d_M_smoothAt_34 hl 4 rfl ?_
  refine sy_imul X d_M_smoothAt_35 ?_
  refine sy_iadd X d_M_smoothAt_36 ?_
  rw [show ((48 : Int) + 6 * (t : Int)) = ((zz : Nat) : Int) by omega]
  refine sy_istore (lv1 := [(5, .int (iI ((zz : Nat) : Int))), (4, .int (iI ((xx : Nat) : Int))), (3, .int (iI ((pp : Nat) : Int))), (2, .int (iI ((f : Nat) : Int))), (0, .ref (ad 0)), (1, .int (iI ((t : Nat) : Int)))]) X d_M_smoothAt_37 hl (by decide) rfl (fun ls hl => ?_)
  refine sy_bipush X d_M_smoothAt_39 (by decide) ?_
  refine sy_istore (lv1 := [(6, .int (iI 110)), (5, .int (iI ((zz : Nat) : Int))), (4, .int (iI ((xx : Nat) : Int))), (3, .int (iI ((pp : Nat) : Int))), (2, .int (iI ((f : Nat) : Int))), (0, .ref (ad 0)), (1, .int (iI ((t : Nat) : Int)))]) X d_M_smoothAt_41 hl (by decide) rfl (fun ls hl => ?_)
  refine sy_aload_n X d_M_smoothAt_43 hl 5 rfl ?_
  refine sy_iload_n X d_M_smoothAt_44 hl 4 rfl ?_
  refine sy_iload_n X d_M_smoothAt_45 hl 3 rfl ?_
  refine sy_iconst X d_M_smoothAt_46 ?_
  refine sy_iload_n X d_M_smoothAt_47 hl 6 rfl ?_
  refine sy_imul X d_M_smoothAt_48 ?_
  rw [show ((4 : Int) * (t : Int)) = ((aa : Nat) : Int) by omega]
  refine call_Vv (Xs := []) (b := ad 0) (As := [.int (iI ((f : Nat) : Int)), .int (iI ((pp : Nat) : Int)), .int (iI ((aa : Nat) : Int))]) (rest := []) X lk_M_134 (c_M_matrix l D cs ad M N f pp aa (by omega) (by omega) (by omega) hR hm hb hb2 (by rw [← hU, ← hPv, ← hC]; exact hdet)) ⟨by decide, by decide⟩ rcv_M hw rfl hl.1 (Nat.le_of_ble_eq_true rfl) d_M_smoothAt_49 rfl rfl ⟨Nat.zero_le _, Nat.zero_le _⟩ (fun Mg H locs pg hw => ?_)
  obtain ⟨N1, pgr, pgs, pgv, fr1⟩ := pg
  rw [← hU, ← hPv, ← hC] at pgv
  obtain ⟨G, hGe⟩ : ∃ g : Nat → Int, g = matG U Pv C := ⟨_, rfl⟩
  rw [← hGe] at pgv
  obtain ⟨g0, eg0⟩ : ∃ g, G 0 = g := ⟨_, rfl⟩
  have hg0 : N1 96 = g0 := by rw [← eg0]; exact pgv 0 (by decide)
  obtain ⟨g1, eg1⟩ : ∃ g, G 1 = g := ⟨_, rfl⟩
  have hg1 : N1 97 = g1 := by rw [← eg1]; exact pgv 1 (by decide)
  obtain ⟨g2, eg2⟩ : ∃ g, G 2 = g := ⟨_, rfl⟩
  have hg2 : N1 98 = g2 := by rw [← eg2]; exact pgv 2 (by decide)
  obtain ⟨g3, eg3⟩ : ∃ g, G 3 = g := ⟨_, rfl⟩
  have hg3 : N1 99 = g3 := by rw [← eg3]; exact pgv 3 (by decide)
  obtain ⟨g4, eg4⟩ : ∃ g, G 4 = g := ⟨_, rfl⟩
  have hg4 : N1 100 = g4 := by rw [← eg4]; exact pgv 4 (by decide)
  have kc : ∀ i, i < 4 → Bn (C i) 2 := fun i hi => by rw [hC]; exact Bn.of (k := 3) (hm i hi) (by decide)
  have bgs : Bn (matV U Pv C 0) 260 ∧ Bn (matV U Pv C 1) 260 ∧ Bn (matV U Pv C 2) 260 ∧ Bn (matV U Pv C 3) 260 ∧ Bn (matV U Pv C 4) 260 := by
    simp only [matV, U2_, U3_, U4_, Pv2_, Pv3_, Pv4_]
    have q0 := kc 0 (by decide); have q1 := kc 1 (by decide); have q2 := kc 2 (by decide); have q3 := kc 3 (by decide)
    exact ⟨Bn.add (Bn.mul (Bn.add (Bn.mul bu2 q0) (Bn.mul bu3 q1)) bv4) ((Bn.mul (Bn.add (Bn.mul bu2 q2) (Bn.mul bu3 q3)) bv3).sg (by decide)), Bn.add (Bn.mul (Bn.add (Bn.mul bu2 q2) (Bn.mul bu3 q3)) bv2) ((Bn.mul (Bn.add (Bn.mul bu2 q0) (Bn.mul bu3 q1)) bv3).sg (by decide)), Bn.add (Bn.mul (Bn.add (Bn.mul bu3 q0) (Bn.mul bu4 q1)) bv4) ((Bn.mul (Bn.add (Bn.mul bu3 q2) (Bn.mul bu4 q3)) bv3).sg (by decide)), Bn.add (Bn.mul (Bn.add (Bn.mul bu3 q2) (Bn.mul bu4 q3)) bv2) ((Bn.mul (Bn.add (Bn.mul bu3 q0) (Bn.mul bu4 q1)) bv3).sg (by decide)), (Bn.add (Bn.mul bv2 bv4) ((Bn.mul bv3 bv3).sg (by decide))).up (by decide)⟩
  have bg0 : Bn g0 260 := by rw [← eg0, hGe]; exact (bgs.1).div _
  have bg1 : Bn g1 260 := by rw [← eg1, hGe]; exact (bgs.2.1).div _
  have bg2 : Bn g2 260 := by rw [← eg2, hGe]; exact (bgs.2.2.1).div _
  have bg3 : Bn g3 260 := by rw [← eg3, hGe]; exact (bgs.2.2.2.1).div _
  have bg4 : Bn g4 260 := by rw [← eg4, hGe]; exact (bgs.2.2.2.2).div _
  have hg4p : 0 < g4 := by rw [← eg4, hGe]; exact div_pos (gF_pos _ (by omega) _) (gF_dvd0 _ _ _) hdet
  refine sy_iconst X d_M_smoothAt_52 ?_
  refine sy_istore (lv1 := [(7, .int (iI 0)), (6, .int (iI 110)), (5, .int (iI ((zz : Nat) : Int))), (4, .int (iI ((xx : Nat) : Int))), (3, .int (iI ((pp : Nat) : Int))), (2, .int (iI ((f : Nat) : Int))), (0, .ref (ad 0)), (1, .int (iI ((t : Nat) : Int)))]) X d_M_smoothAt_53 hl (by decide) rfl (fun ls hl => ?_)
  refine sy_iload X d_M_smoothAt_55 hl 0 rfl ?_
  refine sy_iconst X d_M_smoothAt_57 ?_
  refine sy_icmp_ge (tgt := 95) X d_M_smoothAt_58 (by decide) ⟨by decide, by decide⟩ ⟨by decide, by decide⟩ (fun c1 => ?_) (fun c1 => ?_)
  · exact absurd c1 (by decide)
  · refine sy_aload_n X d_M_smoothAt_61 hl 6 rfl ?_
    refine sy_bipush X d_M_smoothAt_62 (by decide) ?_
    refine sy_iload X d_M_smoothAt_64 hl 0 rfl ?_
    refine sy_iadd X d_M_smoothAt_66 ?_
    refine sy_iload X d_M_smoothAt_67 hl 3 rfl ?_
    refine sy_iload X d_M_smoothAt_69 hl 0 rfl ?_
    refine sy_iadd X d_M_smoothAt_71 ?_
    refine sy_iload_n X d_M_smoothAt_72 hl 4 rfl ?_
    refine sy_iconst X d_M_smoothAt_73 ?_
    refine sy_iadd X d_M_smoothAt_74 ?_
    refine sy_iload_n X d_M_smoothAt_75 hl 4 rfl ?_
    refine sy_iload X d_M_smoothAt_76 hl 0 rfl ?_
    refine sy_iadd X d_M_smoothAt_78 ?_
    refine sy_iload X d_M_smoothAt_79 hl 3 rfl ?_
    refine sy_iconst X d_M_smoothAt_81 ?_
    refine sy_iadd X d_M_smoothAt_82 ?_
    refine sy_iconst X d_M_smoothAt_83 ?_
    refine sy_iload X d_M_smoothAt_84 hl 1 rfl ?_
    have hv_1 : N1 xx = x0 := (fr1 xx (by omega)).trans (hx0)
    have hv_2 : N1 (pp + 5) = v5 := (fr1 (pp + 5) (by omega)).trans (hv5)
    have hv_3 : N1 pp = v0 := (fr1 pp (by omega)).trans (hv0)
    have hv_4 : N1 (xx + 5) = x5 := (fr1 (xx + 5) (by omega)).trans (hx5)
    refine call_Vv (Xs := []) (b := ad 0) (As := [.int (iI (101 + 0)), .int (iI (((xx : Nat) : Int) + 0)), .int (iI (((pp : Nat) : Int) + 5)), .int (iI (((pp : Nat) : Int) + 0)), .int (iI (((xx : Nat) : Int) + 5)), .int (iI (-1)), .int (iI 110)]) (rest := []) X lk_M_130 (c_M_crossed l D cs ad Mg N1 101 xx (pp + 5) pp (xx + 5) (-1) 110 256 256 (by omega) (by omega) (by omega) (by omega) (by omega) (by omega) (by omega) (by omega) (by omega) (by decide) pgr (by rw [hv_1, hv_2]; exact Bn.mul bx0 bv5) (by rw [hv_3, hv_4]; exact Bn.mul bv0 bx5) (by decide) (by decide)) ⟨by decide, by decide⟩ rcv_M hw rfl hl.1 (Nat.le_of_ble_eq_true rfl) d_M_smoothAt_86 rfl rfl ⟨Nat.zero_le _, Nat.zero_le _⟩ (fun M_6 H locs p_5 hw => ?_)
    obtain ⟨N2, p_5r, p_5s, p_5v, fr2⟩ := p_5
    obtain ⟨w_7, ew_7⟩ : ∃ g, g = x0 * v5 + (-1) * (v0 * x5) := ⟨_, rfl⟩
    have hv_8 : N2 101 = w_7 := by rw [p_5v, hv_1, hv_2, hv_3, hv_4, ew_7]
    have hb_9 : Bn w_7 257 := by rw [ew_7]; exact Bn.add (Bn.mul bx0 bv5) ((Bn.mul bv0 bx5).sg (by decide))
    refine sy_iinc (lv1 := [(7, .int (iI 1)), (6, .int (iI 110)), (5, .int (iI ((zz : Nat) : Int))), (4, .int (iI ((xx : Nat) : Int))), (3, .int (iI ((pp : Nat) : Int))), (2, .int (iI ((f : Nat) : Int))), (0, .ref (ad 0)), (1, .int (iI ((t : Nat) : Int)))]) X d_M_smoothAt_89 hl 0 rfl (by omega) (by decide) rfl (fun ls hl => ?_)
    refine sy_goto (tgt := 55) X d_M_smoothAt_92 (by decide) ?_
    refine sy_iload X d_M_smoothAt_55 hl 0 rfl ?_
    refine sy_iconst X d_M_smoothAt_57 ?_
    refine sy_icmp_ge (tgt := 95) X d_M_smoothAt_58 (by decide) ⟨by decide, by decide⟩ ⟨by decide, by decide⟩ (fun c2 => ?_) (fun c2 => ?_)
    · exact absurd c2 (by decide)
    · refine sy_aload_n X d_M_smoothAt_61 hl 6 rfl ?_
      refine sy_bipush X d_M_smoothAt_62 (by decide) ?_
      refine sy_iload X d_M_smoothAt_64 hl 0 rfl ?_
      refine sy_iadd X d_M_smoothAt_66 ?_
      refine sy_iload X d_M_smoothAt_67 hl 3 rfl ?_
      refine sy_iload X d_M_smoothAt_69 hl 0 rfl ?_
      refine sy_iadd X d_M_smoothAt_71 ?_
      refine sy_iload_n X d_M_smoothAt_72 hl 4 rfl ?_
      refine sy_iconst X d_M_smoothAt_73 ?_
      refine sy_iadd X d_M_smoothAt_74 ?_
      refine sy_iload_n X d_M_smoothAt_75 hl 4 rfl ?_
      refine sy_iload X d_M_smoothAt_76 hl 0 rfl ?_
      refine sy_iadd X d_M_smoothAt_78 ?_
      refine sy_iload X d_M_smoothAt_79 hl 3 rfl ?_
      refine sy_iconst X d_M_smoothAt_81 ?_
      refine sy_iadd X d_M_smoothAt_82 ?_
      refine sy_iconst X d_M_smoothAt_83 ?_
      refine sy_iload X d_M_smoothAt_84 hl 1 rfl ?_
      have hv_10 : N2 (xx + 1) = x1 := (fr2 (xx + 1) (by omega) (by omega)).trans ((fr1 (xx + 1) (by omega)).trans (hx1))
      have hv_11 : N2 (pp + 5) = v5 := (fr2 (pp + 5) (by omega) (by omega)).trans (hv_2)
      have hv_12 : N2 (pp + 1) = v1 := (fr2 (pp + 1) (by omega) (by omega)).trans ((fr1 (pp + 1) (by omega)).trans (hv1))
      have hv_13 : N2 (xx + 5) = x5 := (fr2 (xx + 5) (by omega) (by omega)).trans (hv_4)
      refine call_Vv (Xs := []) (b := ad 0) (As := [.int (iI (101 + 1)), .int (iI (((xx : Nat) : Int) + 1)), .int (iI (((pp : Nat) : Int) + 5)), .int (iI (((pp : Nat) : Int) + 1)), .int (iI (((xx : Nat) : Int) + 5)), .int (iI (-1)), .int (iI 110)]) (rest := []) X lk_M_130 (c_M_crossed l D cs ad M_6 N2 102 (xx + 1) (pp + 5) (pp + 1) (xx + 5) (-1) 110 256 256 (by omega) (by omega) (by omega) (by omega) (by omega) (by omega) (by omega) (by omega) (by omega) (by decide) p_5r (by rw [hv_10, hv_11]; exact Bn.mul bx1 bv5) (by rw [hv_12, hv_13]; exact Bn.mul bv1 bx5) (by decide) (by decide)) ⟨by decide, by decide⟩ rcv_M hw rfl hl.1 (Nat.le_of_ble_eq_true rfl) d_M_smoothAt_86 rfl rfl ⟨Nat.zero_le _, Nat.zero_le _⟩ (fun M_15 H locs p_14 hw => ?_)
      obtain ⟨N3, p_14r, p_14s, p_14v, fr3⟩ := p_14
      obtain ⟨w_16, ew_16⟩ : ∃ g, g = x1 * v5 + (-1) * (v1 * x5) := ⟨_, rfl⟩
      have hv_17 : N3 102 = w_16 := by rw [p_14v, hv_10, hv_11, hv_12, hv_13, ew_16]
      have hb_18 : Bn w_16 257 := by rw [ew_16]; exact Bn.add (Bn.mul bx1 bv5) ((Bn.mul bv1 bx5).sg (by decide))
      refine sy_iinc (lv1 := [(7, .int (iI 2)), (6, .int (iI 110)), (5, .int (iI ((zz : Nat) : Int))), (4, .int (iI ((xx : Nat) : Int))), (3, .int (iI ((pp : Nat) : Int))), (2, .int (iI ((f : Nat) : Int))), (0, .ref (ad 0)), (1, .int (iI ((t : Nat) : Int)))]) X d_M_smoothAt_89 hl 0 rfl (by omega) (by decide) rfl (fun ls hl => ?_)
      refine sy_goto (tgt := 55) X d_M_smoothAt_92 (by decide) ?_
      refine sy_iload X d_M_smoothAt_55 hl 0 rfl ?_
      refine sy_iconst X d_M_smoothAt_57 ?_
      refine sy_icmp_ge (tgt := 95) X d_M_smoothAt_58 (by decide) ⟨by decide, by decide⟩ ⟨by decide, by decide⟩ (fun c3 => ?_) (fun c3 => ?_)
      · exact absurd c3 (by decide)
      · refine sy_aload_n X d_M_smoothAt_61 hl 6 rfl ?_
        refine sy_bipush X d_M_smoothAt_62 (by decide) ?_
        refine sy_iload X d_M_smoothAt_64 hl 0 rfl ?_
        refine sy_iadd X d_M_smoothAt_66 ?_
        refine sy_iload X d_M_smoothAt_67 hl 3 rfl ?_
        refine sy_iload X d_M_smoothAt_69 hl 0 rfl ?_
        refine sy_iadd X d_M_smoothAt_71 ?_
        refine sy_iload_n X d_M_smoothAt_72 hl 4 rfl ?_
        refine sy_iconst X d_M_smoothAt_73 ?_
        refine sy_iadd X d_M_smoothAt_74 ?_
        refine sy_iload_n X d_M_smoothAt_75 hl 4 rfl ?_
        refine sy_iload X d_M_smoothAt_76 hl 0 rfl ?_
        refine sy_iadd X d_M_smoothAt_78 ?_
        refine sy_iload X d_M_smoothAt_79 hl 3 rfl ?_
        refine sy_iconst X d_M_smoothAt_81 ?_
        refine sy_iadd X d_M_smoothAt_82 ?_
        refine sy_iconst X d_M_smoothAt_83 ?_
        refine sy_iload X d_M_smoothAt_84 hl 1 rfl ?_
        have hv_19 : N3 (xx + 2) = x2 := (fr3 (xx + 2) (by omega) (by omega)).trans ((fr2 (xx + 2) (by omega) (by omega)).trans ((fr1 (xx + 2) (by omega)).trans (hx2)))
        have hv_20 : N3 (pp + 5) = v5 := (fr3 (pp + 5) (by omega) (by omega)).trans (hv_11)
        have hv_21 : N3 (pp + 2) = v2 := (fr3 (pp + 2) (by omega) (by omega)).trans ((fr2 (pp + 2) (by omega) (by omega)).trans ((fr1 (pp + 2) (by omega)).trans (hv2)))
        have hv_22 : N3 (xx + 5) = x5 := (fr3 (xx + 5) (by omega) (by omega)).trans (hv_13)
        refine call_Vv (Xs := []) (b := ad 0) (As := [.int (iI (101 + 2)), .int (iI (((xx : Nat) : Int) + 2)), .int (iI (((pp : Nat) : Int) + 5)), .int (iI (((pp : Nat) : Int) + 2)), .int (iI (((xx : Nat) : Int) + 5)), .int (iI (-1)), .int (iI 110)]) (rest := []) X lk_M_130 (c_M_crossed l D cs ad M_15 N3 103 (xx + 2) (pp + 5) (pp + 2) (xx + 5) (-1) 110 256 256 (by omega) (by omega) (by omega) (by omega) (by omega) (by omega) (by omega) (by omega) (by omega) (by decide) p_14r (by rw [hv_19, hv_20]; exact Bn.mul bx2 bv5) (by rw [hv_21, hv_22]; exact Bn.mul bv2 bx5) (by decide) (by decide)) ⟨by decide, by decide⟩ rcv_M hw rfl hl.1 (Nat.le_of_ble_eq_true rfl) d_M_smoothAt_86 rfl rfl ⟨Nat.zero_le _, Nat.zero_le _⟩ (fun M_24 H locs p_23 hw => ?_)
        obtain ⟨N4, p_23r, p_23s, p_23v, fr4⟩ := p_23
        obtain ⟨w_25, ew_25⟩ : ∃ g, g = x2 * v5 + (-1) * (v2 * x5) := ⟨_, rfl⟩
        have hv_26 : N4 103 = w_25 := by rw [p_23v, hv_19, hv_20, hv_21, hv_22, ew_25]
        have hb_27 : Bn w_25 257 := by rw [ew_25]; exact Bn.add (Bn.mul bx2 bv5) ((Bn.mul bv2 bx5).sg (by decide))
        refine sy_iinc (lv1 := [(7, .int (iI 3)), (6, .int (iI 110)), (5, .int (iI ((zz : Nat) : Int))), (4, .int (iI ((xx : Nat) : Int))), (3, .int (iI ((pp : Nat) : Int))), (2, .int (iI ((f : Nat) : Int))), (0, .ref (ad 0)), (1, .int (iI ((t : Nat) : Int)))]) X d_M_smoothAt_89 hl 0 rfl (by omega) (by decide) rfl (fun ls hl => ?_)
        refine sy_goto (tgt := 55) X d_M_smoothAt_92 (by decide) ?_
        refine sy_iload X d_M_smoothAt_55 hl 0 rfl ?_
        refine sy_iconst X d_M_smoothAt_57 ?_
        refine sy_icmp_ge (tgt := 95) X d_M_smoothAt_58 (by decide) ⟨by decide, by decide⟩ ⟨by decide, by decide⟩ (fun c4 => ?_) (fun c4 => ?_)
        · exact absurd c4 (by decide)
        · refine sy_aload_n X d_M_smoothAt_61 hl 6 rfl ?_
          refine sy_bipush X d_M_smoothAt_62 (by decide) ?_
          refine sy_iload X d_M_smoothAt_64 hl 0 rfl ?_
          refine sy_iadd X d_M_smoothAt_66 ?_
          refine sy_iload X d_M_smoothAt_67 hl 3 rfl ?_
          refine sy_iload X d_M_smoothAt_69 hl 0 rfl ?_
          refine sy_iadd X d_M_smoothAt_71 ?_
          refine sy_iload_n X d_M_smoothAt_72 hl 4 rfl ?_
          refine sy_iconst X d_M_smoothAt_73 ?_
          refine sy_iadd X d_M_smoothAt_74 ?_
          refine sy_iload_n X d_M_smoothAt_75 hl 4 rfl ?_
          refine sy_iload X d_M_smoothAt_76 hl 0 rfl ?_
          refine sy_iadd X d_M_smoothAt_78 ?_
          refine sy_iload X d_M_smoothAt_79 hl 3 rfl ?_
          refine sy_iconst X d_M_smoothAt_81 ?_
          refine sy_iadd X d_M_smoothAt_82 ?_
          refine sy_iconst X d_M_smoothAt_83 ?_
          refine sy_iload X d_M_smoothAt_84 hl 1 rfl ?_
          have hv_28 : N4 (xx + 3) = x3 := (fr4 (xx + 3) (by omega) (by omega)).trans ((fr3 (xx + 3) (by omega) (by omega)).trans ((fr2 (xx + 3) (by omega) (by omega)).trans ((fr1 (xx + 3) (by omega)).trans (hx3))))
          have hv_29 : N4 (pp + 5) = v5 := (fr4 (pp + 5) (by omega) (by omega)).trans (hv_20)
          have hv_30 : N4 (pp + 3) = v3 := (fr4 (pp + 3) (by omega) (by omega)).trans ((fr3 (pp + 3) (by omega) (by omega)).trans ((fr2 (pp + 3) (by omega) (by omega)).trans ((fr1 (pp + 3) (by omega)).trans (hv3))))
          have hv_31 : N4 (xx + 5) = x5 := (fr4 (xx + 5) (by omega) (by omega)).trans (hv_22)
          refine call_Vv (Xs := []) (b := ad 0) (As := [.int (iI (101 + 3)), .int (iI (((xx : Nat) : Int) + 3)), .int (iI (((pp : Nat) : Int) + 5)), .int (iI (((pp : Nat) : Int) + 3)), .int (iI (((xx : Nat) : Int) + 5)), .int (iI (-1)), .int (iI 110)]) (rest := []) X lk_M_130 (c_M_crossed l D cs ad M_24 N4 104 (xx + 3) (pp + 5) (pp + 3) (xx + 5) (-1) 110 256 256 (by omega) (by omega) (by omega) (by omega) (by omega) (by omega) (by omega) (by omega) (by omega) (by decide) p_23r (by rw [hv_28, hv_29]; exact Bn.mul bx3 bv5) (by rw [hv_30, hv_31]; exact Bn.mul bv3 bx5) (by decide) (by decide)) ⟨by decide, by decide⟩ rcv_M hw rfl hl.1 (Nat.le_of_ble_eq_true rfl) d_M_smoothAt_86 rfl rfl ⟨Nat.zero_le _, Nat.zero_le _⟩ (fun M_33 H locs p_32 hw => ?_)
          obtain ⟨N5, p_32r, p_32s, p_32v, fr5⟩ := p_32
          obtain ⟨w_34, ew_34⟩ : ∃ g, g = x3 * v5 + (-1) * (v3 * x5) := ⟨_, rfl⟩
          have hv_35 : N5 104 = w_34 := by rw [p_32v, hv_28, hv_29, hv_30, hv_31, ew_34]
          have hb_36 : Bn w_34 257 := by rw [ew_34]; exact Bn.add (Bn.mul bx3 bv5) ((Bn.mul bv3 bx5).sg (by decide))
          refine sy_iinc (lv1 := [(7, .int (iI 4)), (6, .int (iI 110)), (5, .int (iI ((zz : Nat) : Int))), (4, .int (iI ((xx : Nat) : Int))), (3, .int (iI ((pp : Nat) : Int))), (2, .int (iI ((f : Nat) : Int))), (0, .ref (ad 0)), (1, .int (iI ((t : Nat) : Int)))]) X d_M_smoothAt_89 hl 0 rfl (by omega) (by decide) rfl (fun ls hl => ?_)
          refine sy_goto (tgt := 55) X d_M_smoothAt_92 (by decide) ?_
          refine sy_iload X d_M_smoothAt_55 hl 0 rfl ?_
          refine sy_iconst X d_M_smoothAt_57 ?_
          refine sy_icmp_ge (tgt := 95) X d_M_smoothAt_58 (by decide) ⟨by decide, by decide⟩ ⟨by decide, by decide⟩ (fun c5 => ?_) (fun c5 => ?_)
          · exact absurd c5 (by decide)
          · refine sy_aload_n X d_M_smoothAt_61 hl 6 rfl ?_
            refine sy_bipush X d_M_smoothAt_62 (by decide) ?_
            refine sy_iload X d_M_smoothAt_64 hl 0 rfl ?_
            refine sy_iadd X d_M_smoothAt_66 ?_
            refine sy_iload X d_M_smoothAt_67 hl 3 rfl ?_
            refine sy_iload X d_M_smoothAt_69 hl 0 rfl ?_
            refine sy_iadd X d_M_smoothAt_71 ?_
            refine sy_iload_n X d_M_smoothAt_72 hl 4 rfl ?_
            refine sy_iconst X d_M_smoothAt_73 ?_
            refine sy_iadd X d_M_smoothAt_74 ?_
            refine sy_iload_n X d_M_smoothAt_75 hl 4 rfl ?_
            refine sy_iload X d_M_smoothAt_76 hl 0 rfl ?_
            refine sy_iadd X d_M_smoothAt_78 ?_
            refine sy_iload X d_M_smoothAt_79 hl 3 rfl ?_
            refine sy_iconst X d_M_smoothAt_81 ?_
            refine sy_iadd X d_M_smoothAt_82 ?_
            refine sy_iconst X d_M_smoothAt_83 ?_
            refine sy_iload X d_M_smoothAt_84 hl 1 rfl ?_
            have hv_37 : N5 (xx + 4) = x4 := (fr5 (xx + 4) (by omega) (by omega)).trans ((fr4 (xx + 4) (by omega) (by omega)).trans ((fr3 (xx + 4) (by omega) (by omega)).trans ((fr2 (xx + 4) (by omega) (by omega)).trans ((fr1 (xx + 4) (by omega)).trans (hx4)))))
            have hv_38 : N5 (pp + 5) = v5 := (fr5 (pp + 5) (by omega) (by omega)).trans (hv_29)
            have hv_39 : N5 (pp + 4) = v4 := (fr5 (pp + 4) (by omega) (by omega)).trans ((fr4 (pp + 4) (by omega) (by omega)).trans ((fr3 (pp + 4) (by omega) (by omega)).trans ((fr2 (pp + 4) (by omega) (by omega)).trans ((fr1 (pp + 4) (by omega)).trans (hv4)))))
            have hv_40 : N5 (xx + 5) = x5 := (fr5 (xx + 5) (by omega) (by omega)).trans (hv_31)
            refine call_Vv (Xs := []) (b := ad 0) (As := [.int (iI (101 + 4)), .int (iI (((xx : Nat) : Int) + 4)), .int (iI (((pp : Nat) : Int) + 5)), .int (iI (((pp : Nat) : Int) + 4)), .int (iI (((xx : Nat) : Int) + 5)), .int (iI (-1)), .int (iI 110)]) (rest := []) X lk_M_130 (c_M_crossed l D cs ad M_33 N5 105 (xx + 4) (pp + 5) (pp + 4) (xx + 5) (-1) 110 256 256 (by omega) (by omega) (by omega) (by omega) (by omega) (by omega) (by omega) (by omega) (by omega) (by decide) p_32r (by rw [hv_37, hv_38]; exact Bn.mul bx4 bv5) (by rw [hv_39, hv_40]; exact Bn.mul bv4 bx5) (by decide) (by decide)) ⟨by decide, by decide⟩ rcv_M hw rfl hl.1 (Nat.le_of_ble_eq_true rfl) d_M_smoothAt_86 rfl rfl ⟨Nat.zero_le _, Nat.zero_le _⟩ (fun M_42 H locs p_41 hw => ?_)
            obtain ⟨N6, p_41r, p_41s, p_41v, fr6⟩ := p_41
            obtain ⟨w_43, ew_43⟩ : ∃ g, g = x4 * v5 + (-1) * (v4 * x5) := ⟨_, rfl⟩
            have hv_44 : N6 105 = w_43 := by rw [p_41v, hv_37, hv_38, hv_39, hv_40, ew_43]
            have hb_45 : Bn w_43 257 := by rw [ew_43]; exact Bn.add (Bn.mul bx4 bv5) ((Bn.mul bv4 bx5).sg (by decide))
            refine sy_iinc (lv1 := [(7, .int (iI 5)), (6, .int (iI 110)), (5, .int (iI ((zz : Nat) : Int))), (4, .int (iI ((xx : Nat) : Int))), (3, .int (iI ((pp : Nat) : Int))), (2, .int (iI ((f : Nat) : Int))), (0, .ref (ad 0)), (1, .int (iI ((t : Nat) : Int)))]) X d_M_smoothAt_89 hl 0 rfl (by omega) (by decide) rfl (fun ls hl => ?_)
            refine sy_goto (tgt := 55) X d_M_smoothAt_92 (by decide) ?_
            refine sy_iload X d_M_smoothAt_55 hl 0 rfl ?_
            refine sy_iconst X d_M_smoothAt_57 ?_
            refine sy_icmp_ge (tgt := 95) X d_M_smoothAt_58 (by decide) ⟨by decide, by decide⟩ ⟨by decide, by decide⟩ (fun c6 => ?_) (fun c6 => ?_)
            · refine sy_iconst X d_M_smoothAt_95 ?_
              refine sy_istore (lv1 := [(7, .int (iI 0)), (6, .int (iI 110)), (5, .int (iI ((zz : Nat) : Int))), (4, .int (iI ((xx : Nat) : Int))), (3, .int (iI ((pp : Nat) : Int))), (2, .int (iI ((f : Nat) : Int))), (0, .ref (ad 0)), (1, .int (iI ((t : Nat) : Int)))]) X d_M_smoothAt_96 hl (by decide) rfl (fun ls hl => ?_)
              refine sy_iload X d_M_smoothAt_98 hl 0 rfl ?_
              refine sy_iconst X d_M_smoothAt_100 ?_
              refine sy_icmp_ge (tgt := 178) X d_M_smoothAt_101 (by decide) ⟨by decide, by decide⟩ ⟨by decide, by decide⟩ (fun c7 => ?_) (fun c7 => ?_)
              · exact absurd c7 (by decide)
              · refine sy_aload_n X d_M_smoothAt_104 hl 6 rfl ?_
                refine sy_bipush X d_M_smoothAt_105 (by decide) ?_
                refine sy_iconst X d_M_smoothAt_107 ?_
                refine sy_iload X d_M_smoothAt_108 hl 0 rfl ?_
                refine sy_imul X d_M_smoothAt_110 ?_
                refine sy_iadd X d_M_smoothAt_111 ?_
                refine sy_bipush X d_M_smoothAt_112 (by decide) ?_
                refine sy_iconst X d_M_smoothAt_114 ?_
                refine sy_iload X d_M_smoothAt_115 hl 0 rfl ?_
                refine sy_imul X d_M_smoothAt_117 ?_
                refine sy_iadd X d_M_smoothAt_118 ?_
                refine sy_bipush X d_M_smoothAt_119 (by decide) ?_
                refine sy_bipush X d_M_smoothAt_121 (by decide) ?_
                refine sy_iconst X d_M_smoothAt_123 ?_
                refine sy_iload X d_M_smoothAt_124 hl 0 rfl ?_
                refine sy_imul X d_M_smoothAt_126 ?_
                refine sy_iadd X d_M_smoothAt_127 ?_
                refine sy_iconst X d_M_smoothAt_128 ?_
                refine sy_iadd X d_M_smoothAt_129 ?_
                refine sy_bipush X d_M_smoothAt_130 (by decide) ?_
                refine sy_iconst X d_M_smoothAt_132 ?_
                refine sy_iload X d_M_smoothAt_133 hl 1 rfl ?_
                have hv_46 : N6 96 = g0 := (fr6 96 (by omega) (by omega)).trans ((fr5 96 (by omega) (by omega)).trans ((fr4 96 (by omega) (by omega)).trans ((fr3 96 (by omega) (by omega)).trans ((fr2 96 (by omega) (by omega)).trans (hg0)))))
                have hv_47 : N6 103 = w_25 := (fr6 103 (by omega) (by omega)).trans ((fr5 103 (by omega) (by omega)).trans (hv_26))
                have hv_48 : N6 97 = g1 := (fr6 97 (by omega) (by omega)).trans ((fr5 97 (by omega) (by omega)).trans ((fr4 97 (by omega) (by omega)).trans ((fr3 97 (by omega) (by omega)).trans ((fr2 97 (by omega) (by omega)).trans (hg1)))))
                have hv_49 : N6 104 = w_34 := (fr6 104 (by omega) (by omega)).trans (hv_35)
                refine call_Vv (Xs := []) (b := ad 0) (As := [.int (iI (106 + (2 * 0))), .int (iI (96 + (2 * 0))), .int (iI 103), .int (iI ((96 + (2 * 0)) + 1)), .int (iI 104), .int (iI 1), .int (iI 110)]) (rest := []) X lk_M_130 (c_M_crossed l D cs ad M_42 N6 106 96 103 97 104 1 110 517 517 (by omega) (by omega) (by omega) (by omega) (by omega) (by omega) (by omega) (by omega) (by omega) (by decide) p_41r (by rw [hv_46, hv_47]; exact Bn.mul bg0 hb_27) (by rw [hv_48, hv_49]; exact Bn.mul bg1 hb_36) (by decide) (by decide)) ⟨by decide, by decide⟩ rcv_M hw rfl hl.1 (Nat.le_of_ble_eq_true rfl) d_M_smoothAt_135 rfl rfl ⟨Nat.zero_le _, Nat.zero_le _⟩ (fun M_51 H locs p_50 hw => ?_)
                obtain ⟨N7, p_50r, p_50s, p_50v, fr7⟩ := p_50
                obtain ⟨w_52, ew_52⟩ : ∃ g, g = g0 * w_25 + 1 * (g1 * w_34) := ⟨_, rfl⟩
                have hv_53 : N7 106 = w_52 := by rw [p_50v, hv_46, hv_47, hv_48, hv_49, ew_52]
                have hb_54 : Bn w_52 518 := by rw [ew_52]; exact Bn.add (Bn.mul bg0 hb_27) ((Bn.mul bg1 hb_36).sg (by decide))
                refine sy_aload_n X d_M_smoothAt_138 hl 6 rfl ?_
                refine sy_bipush X d_M_smoothAt_139 (by decide) ?_
                refine sy_iconst X d_M_smoothAt_141 ?_
                refine sy_iload X d_M_smoothAt_142 hl 0 rfl ?_
                refine sy_imul X d_M_smoothAt_144 ?_
                refine sy_iadd X d_M_smoothAt_145 ?_
                refine sy_bipush X d_M_smoothAt_146 (by decide) ?_
                refine sy_iconst X d_M_smoothAt_148 ?_
                refine sy_iload X d_M_smoothAt_149 hl 0 rfl ?_
                refine sy_imul X d_M_smoothAt_151 ?_
                refine sy_iadd X d_M_smoothAt_152 ?_
                refine sy_bipush X d_M_smoothAt_153 (by decide) ?_
                refine sy_bipush X d_M_smoothAt_155 (by decide) ?_
                refine sy_iconst X d_M_smoothAt_157 ?_
                refine sy_iload X d_M_smoothAt_158 hl 0 rfl ?_
                refine sy_imul X d_M_smoothAt_160 ?_
                refine sy_iadd X d_M_smoothAt_161 ?_
                refine sy_iconst X d_M_smoothAt_162 ?_
                refine sy_iadd X d_M_smoothAt_163 ?_
                refine sy_bipush X d_M_smoothAt_164 (by decide) ?_
                refine sy_iconst X d_M_smoothAt_166 ?_
                refine sy_iload X d_M_smoothAt_167 hl 1 rfl ?_
                have hv_55 : N7 96 = g0 := (fr7 96 (by omega) (by omega)).trans (hv_46)
                have hv_56 : N7 104 = w_34 := (fr7 104 (by omega) (by omega)).trans (hv_49)
                have hv_57 : N7 97 = g1 := (fr7 97 (by omega) (by omega)).trans (hv_48)
                have hv_58 : N7 105 = w_43 := (fr7 105 (by omega) (by omega)).trans (hv_44)
                refine call_Vv (Xs := []) (b := ad 0) (As := [.int (iI (107 + (2 * 0))), .int (iI (96 + (2 * 0))), .int (iI 104), .int (iI ((96 + (2 * 0)) + 1)), .int (iI 105), .int (iI 1), .int (iI 110)]) (rest := []) X lk_M_130 (c_M_crossed l D cs ad M_51 N7 107 96 104 97 105 1 110 517 517 (by omega) (by omega) (by omega) (by omega) (by omega) (by omega) (by omega) (by omega) (by omega) (by decide) p_50r (by rw [hv_55, hv_56]; exact Bn.mul bg0 hb_36) (by rw [hv_57, hv_58]; exact Bn.mul bg1 hb_45) (by decide) (by decide)) ⟨by decide, by decide⟩ rcv_M hw rfl hl.1 (Nat.le_of_ble_eq_true rfl) d_M_smoothAt_169 rfl rfl ⟨Nat.zero_le _, Nat.zero_le _⟩ (fun M_60 H locs p_59 hw => ?_)
                obtain ⟨N8, p_59r, p_59s, p_59v, fr8⟩ := p_59
                obtain ⟨w_61, ew_61⟩ : ∃ g, g = g0 * w_34 + 1 * (g1 * w_43) := ⟨_, rfl⟩
                have hv_62 : N8 107 = w_61 := by rw [p_59v, hv_55, hv_56, hv_57, hv_58, ew_61]
                have hb_63 : Bn w_61 518 := by rw [ew_61]; exact Bn.add (Bn.mul bg0 hb_36) ((Bn.mul bg1 hb_45).sg (by decide))
                refine sy_iinc (lv1 := [(7, .int (iI 1)), (6, .int (iI 110)), (5, .int (iI ((zz : Nat) : Int))), (4, .int (iI ((xx : Nat) : Int))), (3, .int (iI ((pp : Nat) : Int))), (2, .int (iI ((f : Nat) : Int))), (0, .ref (ad 0)), (1, .int (iI ((t : Nat) : Int)))]) X d_M_smoothAt_172 hl 0 rfl (by omega) (by decide) rfl (fun ls hl => ?_)
                refine sy_goto (tgt := 98) X d_M_smoothAt_175 (by decide) ?_
                refine sy_iload X d_M_smoothAt_98 hl 0 rfl ?_
                refine sy_iconst X d_M_smoothAt_100 ?_
                refine sy_icmp_ge (tgt := 178) X d_M_smoothAt_101 (by decide) ⟨by decide, by decide⟩ ⟨by decide, by decide⟩ (fun c8 => ?_) (fun c8 => ?_)
                · exact absurd c8 (by decide)
                · refine sy_aload_n X d_M_smoothAt_104 hl 6 rfl ?_
                  refine sy_bipush X d_M_smoothAt_105 (by decide) ?_
                  refine sy_iconst X d_M_smoothAt_107 ?_
                  refine sy_iload X d_M_smoothAt_108 hl 0 rfl ?_
                  refine sy_imul X d_M_smoothAt_110 ?_
                  refine sy_iadd X d_M_smoothAt_111 ?_
                  refine sy_bipush X d_M_smoothAt_112 (by decide) ?_
                  refine sy_iconst X d_M_smoothAt_114 ?_
                  refine sy_iload X d_M_smoothAt_115 hl 0 rfl ?_
                  refine sy_imul X d_M_smoothAt_117 ?_
                  refine sy_iadd X d_M_smoothAt_118 ?_
                  refine sy_bipush X d_M_smoothAt_119 (by decide) ?_
                  refine sy_bipush X d_M_smoothAt_121 (by decide) ?_
                  refine sy_iconst X d_M_smoothAt_123 ?_
                  refine sy_iload X d_M_smoothAt_124 hl 0 rfl ?_
                  refine sy_imul X d_M_smoothAt_126 ?_
                  refine sy_iadd X d_M_smoothAt_127 ?_
                  refine sy_iconst X d_M_smoothAt_128 ?_
                  refine sy_iadd X d_M_smoothAt_129 ?_
                  refine sy_bipush X d_M_smoothAt_130 (by decide) ?_
                  refine sy_iconst X d_M_smoothAt_132 ?_
                  refine sy_iload X d_M_smoothAt_133 hl 1 rfl ?_
                  have hv_64 : N8 98 = g2 := (fr8 98 (by omega) (by omega)).trans ((fr7 98 (by omega) (by omega)).trans ((fr6 98 (by omega) (by omega)).trans ((fr5 98 (by omega) (by omega)).trans ((fr4 98 (by omega) (by omega)).trans ((fr3 98 (by omega) (by omega)).trans ((fr2 98 (by omega) (by omega)).trans (hg2)))))))
                  have hv_65 : N8 103 = w_25 := (fr8 103 (by omega) (by omega)).trans ((fr7 103 (by omega) (by omega)).trans (hv_47))
                  have hv_66 : N8 99 = g3 := (fr8 99 (by omega) (by omega)).trans ((fr7 99 (by omega) (by omega)).trans ((fr6 99 (by omega) (by omega)).trans ((fr5 99 (by omega) (by omega)).trans ((fr4 99 (by omega) (by omega)).trans ((fr3 99 (by omega) (by omega)).trans ((fr2 99 (by omega) (by omega)).trans (hg3)))))))
                  have hv_67 : N8 104 = w_34 := (fr8 104 (by omega) (by omega)).trans (hv_56)
                  refine call_Vv (Xs := []) (b := ad 0) (As := [.int (iI (106 + (2 * 1))), .int (iI (96 + (2 * 1))), .int (iI 103), .int (iI ((96 + (2 * 1)) + 1)), .int (iI 104), .int (iI 1), .int (iI 110)]) (rest := []) X lk_M_130 (c_M_crossed l D cs ad M_60 N8 108 98 103 99 104 1 110 517 517 (by omega) (by omega) (by omega) (by omega) (by omega) (by omega) (by omega) (by omega) (by omega) (by decide) p_59r (by rw [hv_64, hv_65]; exact Bn.mul bg2 hb_27) (by rw [hv_66, hv_67]; exact Bn.mul bg3 hb_36) (by decide) (by decide)) ⟨by decide, by decide⟩ rcv_M hw rfl hl.1 (Nat.le_of_ble_eq_true rfl) d_M_smoothAt_135 rfl rfl ⟨Nat.zero_le _, Nat.zero_le _⟩ (fun M_69 H locs p_68 hw => ?_)
                  obtain ⟨N9, p_68r, p_68s, p_68v, fr9⟩ := p_68
                  obtain ⟨w_70, ew_70⟩ : ∃ g, g = g2 * w_25 + 1 * (g3 * w_34) := ⟨_, rfl⟩
                  have hv_71 : N9 108 = w_70 := by rw [p_68v, hv_64, hv_65, hv_66, hv_67, ew_70]
                  have hb_72 : Bn w_70 518 := by rw [ew_70]; exact Bn.add (Bn.mul bg2 hb_27) ((Bn.mul bg3 hb_36).sg (by decide))
                  refine sy_aload_n X d_M_smoothAt_138 hl 6 rfl ?_
                  refine sy_bipush X d_M_smoothAt_139 (by decide) ?_
                  refine sy_iconst X d_M_smoothAt_141 ?_
                  refine sy_iload X d_M_smoothAt_142 hl 0 rfl ?_
                  refine sy_imul X d_M_smoothAt_144 ?_
                  refine sy_iadd X d_M_smoothAt_145 ?_
                  refine sy_bipush X d_M_smoothAt_146 (by decide) ?_
                  refine sy_iconst X d_M_smoothAt_148 ?_
                  refine sy_iload X d_M_smoothAt_149 hl 0 rfl ?_
                  refine sy_imul X d_M_smoothAt_151 ?_
                  refine sy_iadd X d_M_smoothAt_152 ?_
                  refine sy_bipush X d_M_smoothAt_153 (by decide) ?_
                  refine sy_bipush X d_M_smoothAt_155 (by decide) ?_
                  refine sy_iconst X d_M_smoothAt_157 ?_
                  refine sy_iload X d_M_smoothAt_158 hl 0 rfl ?_
                  refine sy_imul X d_M_smoothAt_160 ?_
                  refine sy_iadd X d_M_smoothAt_161 ?_
                  refine sy_iconst X d_M_smoothAt_162 ?_
                  refine sy_iadd X d_M_smoothAt_163 ?_
                  refine sy_bipush X d_M_smoothAt_164 (by decide) ?_
                  refine sy_iconst X d_M_smoothAt_166 ?_
                  refine sy_iload X d_M_smoothAt_167 hl 1 rfl ?_
                  have hv_73 : N9 98 = g2 := (fr9 98 (by omega) (by omega)).trans (hv_64)
                  have hv_74 : N9 104 = w_34 := (fr9 104 (by omega) (by omega)).trans (hv_67)
                  have hv_75 : N9 99 = g3 := (fr9 99 (by omega) (by omega)).trans (hv_66)
                  have hv_76 : N9 105 = w_43 := (fr9 105 (by omega) (by omega)).trans ((fr8 105 (by omega) (by omega)).trans (hv_58))
                  refine call_Vv (Xs := []) (b := ad 0) (As := [.int (iI (107 + (2 * 1))), .int (iI (96 + (2 * 1))), .int (iI 104), .int (iI ((96 + (2 * 1)) + 1)), .int (iI 105), .int (iI 1), .int (iI 110)]) (rest := []) X lk_M_130 (c_M_crossed l D cs ad M_69 N9 109 98 104 99 105 1 110 517 517 (by omega) (by omega) (by omega) (by omega) (by omega) (by omega) (by omega) (by omega) (by omega) (by decide) p_68r (by rw [hv_73, hv_74]; exact Bn.mul bg2 hb_36) (by rw [hv_75, hv_76]; exact Bn.mul bg3 hb_45) (by decide) (by decide)) ⟨by decide, by decide⟩ rcv_M hw rfl hl.1 (Nat.le_of_ble_eq_true rfl) d_M_smoothAt_169 rfl rfl ⟨Nat.zero_le _, Nat.zero_le _⟩ (fun M_78 H locs p_77 hw => ?_)
                  obtain ⟨N10, p_77r, p_77s, p_77v, fr10⟩ := p_77
                  obtain ⟨w_79, ew_79⟩ : ∃ g, g = g2 * w_34 + 1 * (g3 * w_43) := ⟨_, rfl⟩
                  have hv_80 : N10 109 = w_79 := by rw [p_77v, hv_73, hv_74, hv_75, hv_76, ew_79]
                  have hb_81 : Bn w_79 518 := by rw [ew_79]; exact Bn.add (Bn.mul bg2 hb_36) ((Bn.mul bg3 hb_45).sg (by decide))
                  refine sy_iinc (lv1 := [(7, .int (iI 2)), (6, .int (iI 110)), (5, .int (iI ((zz : Nat) : Int))), (4, .int (iI ((xx : Nat) : Int))), (3, .int (iI ((pp : Nat) : Int))), (2, .int (iI ((f : Nat) : Int))), (0, .ref (ad 0)), (1, .int (iI ((t : Nat) : Int)))]) X d_M_smoothAt_172 hl 0 rfl (by omega) (by decide) rfl (fun ls hl => ?_)
                  refine sy_goto (tgt := 98) X d_M_smoothAt_175 (by decide) ?_
                  refine sy_iload X d_M_smoothAt_98 hl 0 rfl ?_
                  refine sy_iconst X d_M_smoothAt_100 ?_
                  refine sy_icmp_ge (tgt := 178) X d_M_smoothAt_101 (by decide) ⟨by decide, by decide⟩ ⟨by decide, by decide⟩ (fun c9 => ?_) (fun c9 => ?_)
                  · refine sy_bipush X d_M_smoothAt_178 (by decide) ?_
                    refine sy_istore (lv1 := [(7, .int (iI 100)), (6, .int (iI 110)), (5, .int (iI ((zz : Nat) : Int))), (4, .int (iI ((xx : Nat) : Int))), (3, .int (iI ((pp : Nat) : Int))), (2, .int (iI ((f : Nat) : Int))), (0, .ref (ad 0)), (1, .int (iI ((t : Nat) : Int)))]) X d_M_smoothAt_180 hl (by decide) rfl (fun ls hl => ?_)
                    refine sy_bipush X d_M_smoothAt_182 (by decide) ?_
                    refine sy_istore (lv1 := [(8, .int (iI 111)), (7, .int (iI 100)), (6, .int (iI 110)), (5, .int (iI ((zz : Nat) : Int))), (4, .int (iI ((xx : Nat) : Int))), (3, .int (iI ((pp : Nat) : Int))), (2, .int (iI ((f : Nat) : Int))), (0, .ref (ad 0)), (1, .int (iI ((t : Nat) : Int)))]) X d_M_smoothAt_184 hl (by decide) rfl (fun ls hl => ?_)
                    refine sy_aload_n X d_M_smoothAt_186 hl 7 rfl ?_
                    refine sy_iload X d_M_smoothAt_187 hl 0 rfl ?_
                    refine sy_iload X d_M_smoothAt_189 hl 1 rfl ?_
                    refine sy_iload X d_M_smoothAt_191 hl 1 rfl ?_
                    have hv_82 : N10 100 = g4 := (fr10 100 (by omega) (by omega)).trans ((fr9 100 (by omega) (by omega)).trans ((fr8 100 (by omega) (by omega)).trans ((fr7 100 (by omega) (by omega)).trans ((fr6 100 (by omega) (by omega)).trans ((fr5 100 (by omega) (by omega)).trans ((fr4 100 (by omega) (by omega)).trans ((fr3 100 (by omega) (by omega)).trans ((fr2 100 (by omega) (by omega)).trans (hg4)))))))))
                    refine call_Vv (Xs := []) (b := ad 0) (As := [.int (iI 111), .int (iI 100), .int (iI 100)]) (rest := []) X lk_M_59 (c_M_times l D cs ad M_78 N10 111 100 100 (by omega) (by omega) (by omega) p_77r (by rw [hv_82]; exact Bn.fin (Bn.mul bg4 bg4) (by decide))) ⟨by decide, by decide⟩ rcv_M hw rfl hl.1 (Nat.le_of_ble_eq_true rfl) d_M_smoothAt_193 rfl rfl ⟨Nat.zero_le _, Nat.zero_le _⟩ (fun M_84 H locs p_83 hw => ?_)
                    obtain ⟨N11, eN11⟩ : ∃ g, g = up1 N10 111 (N10 100 * N10 100) := ⟨_, rfl⟩
                    rw [← eN11] at p_83
                    have fr11 : ∀ j, j ≠ 111 → N11 j = N10 j := fun j h0 => by rw [eN11, up1_n _ h0]
                    obtain ⟨w_85, ew_85⟩ : ∃ g, g = g4 * g4 := ⟨_, rfl⟩
                    have hv_86 : N11 111 = w_85 := by rw [eN11, up1_s, hv_82, ew_85]
                    have hb_87 : Bn w_85 520 := by rw [ew_85]; exact Bn.mul bg4 bg4
                    refine sy_aload_n X d_M_smoothAt_196 hl 7 rfl ?_
                    refine sy_iload X d_M_smoothAt_197 hl 0 rfl ?_
                    refine sy_iload X d_M_smoothAt_199 hl 0 rfl ?_
                    refine sy_iload X d_M_smoothAt_201 hl 4 rfl ?_
                    refine sy_iconst X d_M_smoothAt_203 ?_
                    refine sy_iadd X d_M_smoothAt_204 ?_
                    have hv_88 : N11 (xx + 5) = x5 := (fr11 (xx + 5) (by omega)).trans ((fr10 (xx + 5) (by omega) (by omega)).trans ((fr9 (xx + 5) (by omega) (by omega)).trans ((fr8 (xx + 5) (by omega) (by omega)).trans ((fr7 (xx + 5) (by omega) (by omega)).trans ((fr6 (xx + 5) (by omega) (by omega)).trans (hv_40))))))
                    refine call_Vv (Xs := []) (b := ad 0) (As := [.int (iI 111), .int (iI 111), .int (iI (((xx : Nat) : Int) + 5))]) (rest := []) X lk_M_59 (c_M_times l D cs ad M_84 N11 111 111 (xx + 5) (by omega) (by omega) (by omega) p_83.1 (by rw [hv_86, hv_88]; exact Bn.fin (Bn.mul hb_87 bx5) (by decide))) ⟨by decide, by decide⟩ rcv_M hw rfl hl.1 (Nat.le_of_ble_eq_true rfl) d_M_smoothAt_205 rfl rfl ⟨Nat.zero_le _, Nat.zero_le _⟩ (fun M_90 H locs p_89 hw => ?_)
                    obtain ⟨N12, eN12⟩ : ∃ g, g = up1 N11 111 (N11 111 * N11 (xx + 5)) := ⟨_, rfl⟩
                    rw [← eN12] at p_89
                    have fr12 : ∀ j, j ≠ 111 → N12 j = N11 j := fun j h0 => by rw [eN12, up1_n _ h0]
                    obtain ⟨w_91, ew_91⟩ : ∃ g, g = w_85 * x5 := ⟨_, rfl⟩
                    have hv_92 : N12 111 = w_91 := by rw [eN12, up1_s, hv_86, hv_88, ew_91]
                    have hb_93 : Bn w_91 648 := by rw [ew_91]; exact Bn.mul hb_87 bx5
                    refine sy_iconst X d_M_smoothAt_208 ?_
                    refine sy_istore (lv1 := [(9, .int (iI 0)), (8, .int (iI 111)), (7, .int (iI 100)), (6, .int (iI 110)), (5, .int (iI ((zz : Nat) : Int))), (4, .int (iI ((xx : Nat) : Int))), (3, .int (iI ((pp : Nat) : Int))), (2, .int (iI ((f : Nat) : Int))), (0, .ref (ad 0)), (1, .int (iI ((t : Nat) : Int)))]) X d_M_smoothAt_209 hl (by decide) rfl (fun ls hl => ?_)
                    refine sy_iload X d_M_smoothAt_211 hl 0 rfl ?_
                    refine sy_iconst X d_M_smoothAt_213 ?_
                    refine sy_icmp_ge (tgt := 289) X d_M_smoothAt_214 (by decide) ⟨by decide, by decide⟩ ⟨by decide, by decide⟩ (fun c10 => ?_) (fun c10 => ?_)
                    · exact absurd c10 (by decide)
                    · refine sy_aload_n X d_M_smoothAt_217 hl 8 rfl ?_
                      refine sy_iload X d_M_smoothAt_218 hl 4 rfl ?_
                      refine sy_iload X d_M_smoothAt_220 hl 0 rfl ?_
                      refine sy_iadd X d_M_smoothAt_222 ?_
                      refine sy_bipush X d_M_smoothAt_223 (by decide) ?_
                      refine sy_iconst X d_M_smoothAt_225 ?_
                      refine sy_iload X d_M_smoothAt_226 hl 0 rfl ?_
                      refine sy_imul X d_M_smoothAt_228 ?_
                      refine sy_iadd X d_M_smoothAt_229 ?_
                      refine sy_bipush X d_M_smoothAt_230 (by decide) ?_
                      refine sy_bipush X d_M_smoothAt_232 (by decide) ?_
                      refine sy_iconst X d_M_smoothAt_234 ?_
                      refine sy_iload X d_M_smoothAt_235 hl 0 rfl ?_
                      refine sy_imul X d_M_smoothAt_237 ?_
                      refine sy_iadd X d_M_smoothAt_238 ?_
                      refine sy_iconst X d_M_smoothAt_239 ?_
                      refine sy_iadd X d_M_smoothAt_240 ?_
                      refine sy_bipush X d_M_smoothAt_241 (by decide) ?_
                      refine sy_iconst X d_M_smoothAt_243 ?_
                      refine sy_iload X d_M_smoothAt_244 hl 3 rfl ?_
                      have hv_94 : N12 96 = g0 := (fr12 96 (by omega)).trans ((fr11 96 (by omega)).trans ((fr10 96 (by omega) (by omega)).trans ((fr9 96 (by omega) (by omega)).trans ((fr8 96 (by omega) (by omega)).trans (hv_55)))))
                      have hv_95 : N12 101 = w_7 := (fr12 101 (by omega)).trans ((fr11 101 (by omega)).trans ((fr10 101 (by omega) (by omega)).trans ((fr9 101 (by omega) (by omega)).trans ((fr8 101 (by omega) (by omega)).trans ((fr7 101 (by omega) (by omega)).trans ((fr6 101 (by omega) (by omega)).trans ((fr5 101 (by omega) (by omega)).trans ((fr4 101 (by omega) (by omega)).trans ((fr3 101 (by omega) (by omega)).trans (hv_8))))))))))
                      have hv_96 : N12 97 = g1 := (fr12 97 (by omega)).trans ((fr11 97 (by omega)).trans ((fr10 97 (by omega) (by omega)).trans ((fr9 97 (by omega) (by omega)).trans ((fr8 97 (by omega) (by omega)).trans (hv_57)))))
                      have hv_97 : N12 102 = w_16 := (fr12 102 (by omega)).trans ((fr11 102 (by omega)).trans ((fr10 102 (by omega) (by omega)).trans ((fr9 102 (by omega) (by omega)).trans ((fr8 102 (by omega) (by omega)).trans ((fr7 102 (by omega) (by omega)).trans ((fr6 102 (by omega) (by omega)).trans ((fr5 102 (by omega) (by omega)).trans ((fr4 102 (by omega) (by omega)).trans (hv_17)))))))))
                      refine call_Vv (Xs := []) (b := ad 0) (As := [.int (iI (((zz : Nat) : Int) + 0)), .int (iI (96 + (2 * 0))), .int (iI 101), .int (iI ((96 + (2 * 0)) + 1)), .int (iI 102), .int (iI 1), .int (iI 110)]) (rest := []) X lk_M_130 (c_M_crossed l D cs ad M_90 N12 zz 96 101 97 102 1 110 517 517 (by omega) (by omega) (by omega) (by omega) (by omega) (by omega) (by omega) (by omega) (by omega) (by decide) p_89.1 (by rw [hv_94, hv_95]; exact Bn.mul bg0 hb_9) (by rw [hv_96, hv_97]; exact Bn.mul bg1 hb_18) (by decide) (by decide)) ⟨by decide, by decide⟩ rcv_M hw rfl hl.1 (Nat.le_of_ble_eq_true rfl) d_M_smoothAt_246 rfl rfl ⟨Nat.zero_le _, Nat.zero_le _⟩ (fun M_99 H locs p_98 hw => ?_)
                      obtain ⟨N13, p_98r, p_98s, p_98v, fr13⟩ := p_98
                      obtain ⟨w_100, ew_100⟩ : ∃ g, g = g0 * w_7 + 1 * (g1 * w_16) := ⟨_, rfl⟩
                      have hv_101 : N13 zz = w_100 := by rw [p_98v, hv_94, hv_95, hv_96, hv_97, ew_100]
                      have hb_102 : Bn w_100 518 := by rw [ew_100]; exact Bn.add (Bn.mul bg0 hb_9) ((Bn.mul bg1 hb_18).sg (by decide))
                      refine sy_aload_n X d_M_smoothAt_249 hl 8 rfl ?_
                      refine sy_iload X d_M_smoothAt_250 hl 4 rfl ?_
                      refine sy_iload X d_M_smoothAt_252 hl 0 rfl ?_
                      refine sy_iadd X d_M_smoothAt_254 ?_
                      refine sy_iload X d_M_smoothAt_255 hl 4 rfl ?_
                      refine sy_iload X d_M_smoothAt_257 hl 0 rfl ?_
                      refine sy_iadd X d_M_smoothAt_259 ?_
                      refine sy_iload X d_M_smoothAt_260 hl 2 rfl ?_
                      have hv_103 : N13 100 = g4 := (fr13 100 (by omega) (by omega)).trans ((fr12 100 (by omega)).trans ((fr11 100 (by omega)).trans (hv_82)))
                      refine call_Vv (Xs := []) (b := ad 0) (As := [.int (iI (((zz : Nat) : Int) + 0)), .int (iI (((zz : Nat) : Int) + 0)), .int (iI 100)]) (rest := []) X lk_M_59 (c_M_times l D cs ad M_99 N13 zz zz 100 (by omega) (by omega) (by omega) p_98r (by rw [hv_101, hv_103]; exact Bn.fin (Bn.mul hb_102 bg4) (by decide))) ⟨by decide, by decide⟩ rcv_M hw rfl hl.1 (Nat.le_of_ble_eq_true rfl) d_M_smoothAt_262 rfl rfl ⟨Nat.zero_le _, Nat.zero_le _⟩ (fun M_105 H locs p_104 hw => ?_)
                      obtain ⟨N14, eN14⟩ : ∃ g, g = up1 N13 zz (N13 zz * N13 100) := ⟨_, rfl⟩
                      rw [← eN14] at p_104
                      have fr14 : ∀ j, j ≠ zz → N14 j = N13 j := fun j h0 => by rw [eN14, up1_n _ h0]
                      obtain ⟨w_106, ew_106⟩ : ∃ g, g = w_100 * g4 := ⟨_, rfl⟩
                      have hv_107 : N14 zz = w_106 := by rw [eN14, up1_s, hv_101, hv_103, ew_106]
                      have hb_108 : Bn w_106 778 := by rw [ew_106]; exact Bn.mul hb_102 bg4
                      refine sy_aload_n X d_M_smoothAt_265 hl 8 rfl ?_
                      refine sy_iload X d_M_smoothAt_266 hl 4 rfl ?_
                      refine sy_iload X d_M_smoothAt_268 hl 0 rfl ?_
                      refine sy_iadd X d_M_smoothAt_270 ?_
                      refine sy_iload_n X d_M_smoothAt_271 hl 7 rfl ?_
                      refine sy_iload X d_M_smoothAt_272 hl 0 rfl ?_
                      refine sy_iadd X d_M_smoothAt_274 ?_
                      refine sy_iload X d_M_smoothAt_275 hl 1 rfl ?_
                      refine sy_iconst X d_M_smoothAt_277 ?_
                      refine sy_iload X d_M_smoothAt_278 hl 3 rfl ?_
                      have hv_109 : N14 f = u0 := (fr14 f (by omega)).trans ((fr13 f (by omega) (by omega)).trans ((fr12 f (by omega)).trans ((fr11 f (by omega)).trans ((fr10 f (by omega) (by omega)).trans ((fr9 f (by omega) (by omega)).trans ((fr8 f (by omega) (by omega)).trans ((fr7 f (by omega) (by omega)).trans ((fr6 f (by omega) (by omega)).trans ((fr5 f (by omega) (by omega)).trans ((fr4 f (by omega) (by omega)).trans ((fr3 f (by omega) (by omega)).trans ((fr2 f (by omega) (by omega)).trans ((fr1 f (by omega)).trans (hu0))))))))))))))
                      have hv_110 : N14 111 = w_91 := (fr14 111 (by omega)).trans ((fr13 111 (by omega) (by omega)).trans (hv_92))
                      refine call_Vv (Xs := []) (b := ad 0) (As := [.int (iI (((zz : Nat) : Int) + 0)), .int (iI (((f : Nat) : Int) + 0)), .int (iI 111), .int (iI 1), .int (iI 110)]) (rest := []) X lk_M_120 (c_M_join l D cs ad M_105 N14 zz f 111 1 110 (by omega) (by omega) (by omega) (by omega) (by omega) (by decide) p_104.1 (by rw [hv_109, hv_110]; exact Bn.fin (Bn.mul bu0 hb_93) (by decide)) (by rw [hv_107, hv_109, hv_110]; exact Bn.fin (Bn.add hb_108 ((Bn.mul bu0 hb_93).sg (by decide))) (by decide))) ⟨by decide, by decide⟩ rcv_M hw rfl hl.1 (Nat.le_of_ble_eq_true rfl) d_M_smoothAt_280 rfl rfl ⟨Nat.zero_le _, Nat.zero_le _⟩ (fun M_112 H locs p_111 hw => ?_)
                      obtain ⟨N15, eN15⟩ : ∃ g, g = up1 (up1 N14 110 (N14 f * N14 111)) zz (N14 zz + 1 * (N14 f * N14 111)) := ⟨_, rfl⟩
                      rw [← eN15] at p_111
                      have fr15 : ∀ j, j ≠ 110 → j ≠ zz → N15 j = N14 j := fun j h0 h1 => by rw [eN15, up1_n _ h1, up1_n _ h0]
                      obtain ⟨w_113, ew_113⟩ : ∃ g, g = u0 * w_91 := ⟨_, rfl⟩
                      have hv_114 : N15 110 = w_113 := by rw [eN15, up1_n _ (by omega), up1_s, hv_109, hv_110, ew_113]
                      have hb_115 : Bn w_113 776 := by rw [ew_113]; exact Bn.mul bu0 hb_93
                      obtain ⟨w_116, ew_116⟩ : ∃ g, g = w_106 + 1 * (u0 * w_91) := ⟨_, rfl⟩
                      have hv_117 : N15 zz = w_116 := by rw [eN15, up1_s, hv_107, hv_109, hv_110, ew_116]
                      have hb_118 : Bn w_116 779 := by rw [ew_116]; exact Bn.add hb_108 ((Bn.mul bu0 hb_93).sg (by decide))
                      refine sy_iinc (lv1 := [(9, .int (iI 1)), (8, .int (iI 111)), (7, .int (iI 100)), (6, .int (iI 110)), (5, .int (iI ((zz : Nat) : Int))), (4, .int (iI ((xx : Nat) : Int))), (3, .int (iI ((pp : Nat) : Int))), (2, .int (iI ((f : Nat) : Int))), (0, .ref (ad 0)), (1, .int (iI ((t : Nat) : Int)))]) X d_M_smoothAt_283 hl 0 rfl (by omega) (by decide) rfl (fun ls hl => ?_)
                      refine sy_goto (tgt := 211) X d_M_smoothAt_286 (by decide) ?_
                      refine sy_iload X d_M_smoothAt_211 hl 0 rfl ?_
                      refine sy_iconst X d_M_smoothAt_213 ?_
                      refine sy_icmp_ge (tgt := 289) X d_M_smoothAt_214 (by decide) ⟨by decide, by decide⟩ ⟨by decide, by decide⟩ (fun c11 => ?_) (fun c11 => ?_)
                      · exact absurd c11 (by decide)
                      · refine sy_aload_n X d_M_smoothAt_217 hl 8 rfl ?_
                        refine sy_iload X d_M_smoothAt_218 hl 4 rfl ?_
                        refine sy_iload X d_M_smoothAt_220 hl 0 rfl ?_
                        refine sy_iadd X d_M_smoothAt_222 ?_
                        refine sy_bipush X d_M_smoothAt_223 (by decide) ?_
                        refine sy_iconst X d_M_smoothAt_225 ?_
                        refine sy_iload X d_M_smoothAt_226 hl 0 rfl ?_
                        refine sy_imul X d_M_smoothAt_228 ?_
                        refine sy_iadd X d_M_smoothAt_229 ?_
                        refine sy_bipush X d_M_smoothAt_230 (by decide) ?_
                        refine sy_bipush X d_M_smoothAt_232 (by decide) ?_
                        refine sy_iconst X d_M_smoothAt_234 ?_
                        refine sy_iload X d_M_smoothAt_235 hl 0 rfl ?_
                        refine sy_imul X d_M_smoothAt_237 ?_
                        refine sy_iadd X d_M_smoothAt_238 ?_
                        refine sy_iconst X d_M_smoothAt_239 ?_
                        refine sy_iadd X d_M_smoothAt_240 ?_
                        refine sy_bipush X d_M_smoothAt_241 (by decide) ?_
                        refine sy_iconst X d_M_smoothAt_243 ?_
                        refine sy_iload X d_M_smoothAt_244 hl 3 rfl ?_
                        have hv_119 : N15 98 = g2 := (fr15 98 (by omega) (by omega)).trans ((fr14 98 (by omega)).trans ((fr13 98 (by omega) (by omega)).trans ((fr12 98 (by omega)).trans ((fr11 98 (by omega)).trans ((fr10 98 (by omega) (by omega)).trans (hv_73))))))
                        have hv_120 : N15 101 = w_7 := (fr15 101 (by omega) (by omega)).trans ((fr14 101 (by omega)).trans ((fr13 101 (by omega) (by omega)).trans (hv_95)))
                        have hv_121 : N15 99 = g3 := (fr15 99 (by omega) (by omega)).trans ((fr14 99 (by omega)).trans ((fr13 99 (by omega) (by omega)).trans ((fr12 99 (by omega)).trans ((fr11 99 (by omega)).trans ((fr10 99 (by omega) (by omega)).trans (hv_75))))))
                        have hv_122 : N15 102 = w_16 := (fr15 102 (by omega) (by omega)).trans ((fr14 102 (by omega)).trans ((fr13 102 (by omega) (by omega)).trans (hv_97)))
                        refine call_Vv (Xs := []) (b := ad 0) (As := [.int (iI (((zz : Nat) : Int) + 1)), .int (iI (96 + (2 * 1))), .int (iI 101), .int (iI ((96 + (2 * 1)) + 1)), .int (iI 102), .int (iI 1), .int (iI 110)]) (rest := []) X lk_M_130 (c_M_crossed l D cs ad M_112 N15 (zz + 1) 98 101 99 102 1 110 517 517 (by omega) (by omega) (by omega) (by omega) (by omega) (by omega) (by omega) (by omega) (by omega) (by decide) p_111.1 (by rw [hv_119, hv_120]; exact Bn.mul bg2 hb_9) (by rw [hv_121, hv_122]; exact Bn.mul bg3 hb_18) (by decide) (by decide)) ⟨by decide, by decide⟩ rcv_M hw rfl hl.1 (Nat.le_of_ble_eq_true rfl) d_M_smoothAt_246 rfl rfl ⟨Nat.zero_le _, Nat.zero_le _⟩ (fun M_124 H locs p_123 hw => ?_)
                        obtain ⟨N16, p_123r, p_123s, p_123v, fr16⟩ := p_123
                        obtain ⟨w_125, ew_125⟩ : ∃ g, g = g2 * w_7 + 1 * (g3 * w_16) := ⟨_, rfl⟩
                        have hv_126 : N16 (zz + 1) = w_125 := by rw [p_123v, hv_119, hv_120, hv_121, hv_122, ew_125]
                        have hb_127 : Bn w_125 518 := by rw [ew_125]; exact Bn.add (Bn.mul bg2 hb_9) ((Bn.mul bg3 hb_18).sg (by decide))
                        refine sy_aload_n X d_M_smoothAt_249 hl 8 rfl ?_
                        refine sy_iload X d_M_smoothAt_250 hl 4 rfl ?_
                        refine sy_iload X d_M_smoothAt_252 hl 0 rfl ?_
                        refine sy_iadd X d_M_smoothAt_254 ?_
                        refine sy_iload X d_M_smoothAt_255 hl 4 rfl ?_
                        refine sy_iload X d_M_smoothAt_257 hl 0 rfl ?_
                        refine sy_iadd X d_M_smoothAt_259 ?_
                        refine sy_iload X d_M_smoothAt_260 hl 2 rfl ?_
                        have hv_128 : N16 100 = g4 := (fr16 100 (by omega) (by omega)).trans ((fr15 100 (by omega) (by omega)).trans ((fr14 100 (by omega)).trans (hv_103)))
                        refine call_Vv (Xs := []) (b := ad 0) (As := [.int (iI (((zz : Nat) : Int) + 1)), .int (iI (((zz : Nat) : Int) + 1)), .int (iI 100)]) (rest := []) X lk_M_59 (c_M_times l D cs ad M_124 N16 (zz + 1) (zz + 1) 100 (by omega) (by omega) (by omega) p_123r (by rw [hv_126, hv_128]; exact Bn.fin (Bn.mul hb_127 bg4) (by decide))) ⟨by decide, by decide⟩ rcv_M hw rfl hl.1 (Nat.le_of_ble_eq_true rfl) d_M_smoothAt_262 rfl rfl ⟨Nat.zero_le _, Nat.zero_le _⟩ (fun M_130 H locs p_129 hw => ?_)
                        obtain ⟨N17, eN17⟩ : ∃ g, g = up1 N16 (zz + 1) (N16 (zz + 1) * N16 100) := ⟨_, rfl⟩
                        rw [← eN17] at p_129
                        have fr17 : ∀ j, j ≠ (zz + 1) → N17 j = N16 j := fun j h0 => by rw [eN17, up1_n _ h0]
                        obtain ⟨w_131, ew_131⟩ : ∃ g, g = w_125 * g4 := ⟨_, rfl⟩
                        have hv_132 : N17 (zz + 1) = w_131 := by rw [eN17, up1_s, hv_126, hv_128, ew_131]
                        have hb_133 : Bn w_131 778 := by rw [ew_131]; exact Bn.mul hb_127 bg4
                        refine sy_aload_n X d_M_smoothAt_265 hl 8 rfl ?_
                        refine sy_iload X d_M_smoothAt_266 hl 4 rfl ?_
                        refine sy_iload X d_M_smoothAt_268 hl 0 rfl ?_
                        refine sy_iadd X d_M_smoothAt_270 ?_
                        refine sy_iload_n X d_M_smoothAt_271 hl 7 rfl ?_
                        refine sy_iload X d_M_smoothAt_272 hl 0 rfl ?_
                        refine sy_iadd X d_M_smoothAt_274 ?_
                        refine sy_iload X d_M_smoothAt_275 hl 1 rfl ?_
                        refine sy_iconst X d_M_smoothAt_277 ?_
                        refine sy_iload X d_M_smoothAt_278 hl 3 rfl ?_
                        have hv_134 : N17 (f + 1) = u1 := (fr17 (f + 1) (by omega)).trans ((fr16 (f + 1) (by omega) (by omega)).trans ((fr15 (f + 1) (by omega) (by omega)).trans ((fr14 (f + 1) (by omega)).trans ((fr13 (f + 1) (by omega) (by omega)).trans ((fr12 (f + 1) (by omega)).trans ((fr11 (f + 1) (by omega)).trans ((fr10 (f + 1) (by omega) (by omega)).trans ((fr9 (f + 1) (by omega) (by omega)).trans ((fr8 (f + 1) (by omega) (by omega)).trans ((fr7 (f + 1) (by omega) (by omega)).trans ((fr6 (f + 1) (by omega) (by omega)).trans ((fr5 (f + 1) (by omega) (by omega)).trans ((fr4 (f + 1) (by omega) (by omega)).trans ((fr3 (f + 1) (by omega) (by omega)).trans ((fr2 (f + 1) (by omega) (by omega)).trans ((fr1 (f + 1) (by omega)).trans (hu1)))))))))))))))))
                        have hv_135 : N17 111 = w_91 := (fr17 111 (by omega)).trans ((fr16 111 (by omega) (by omega)).trans ((fr15 111 (by omega) (by omega)).trans (hv_110)))
                        refine call_Vv (Xs := []) (b := ad 0) (As := [.int (iI (((zz : Nat) : Int) + 1)), .int (iI (((f : Nat) : Int) + 1)), .int (iI 111), .int (iI 1), .int (iI 110)]) (rest := []) X lk_M_120 (c_M_join l D cs ad M_130 N17 (zz + 1) (f + 1) 111 1 110 (by omega) (by omega) (by omega) (by omega) (by omega) (by decide) p_129.1 (by rw [hv_134, hv_135]; exact Bn.fin (Bn.mul bu1 hb_93) (by decide)) (by rw [hv_132, hv_134, hv_135]; exact Bn.fin (Bn.add hb_133 ((Bn.mul bu1 hb_93).sg (by decide))) (by decide))) ⟨by decide, by decide⟩ rcv_M hw rfl hl.1 (Nat.le_of_ble_eq_true rfl) d_M_smoothAt_280 rfl rfl ⟨Nat.zero_le _, Nat.zero_le _⟩ (fun M_137 H locs p_136 hw => ?_)
                        obtain ⟨N18, eN18⟩ : ∃ g, g = up1 (up1 N17 110 (N17 (f + 1) * N17 111)) (zz + 1) (N17 (zz + 1) + 1 * (N17 (f + 1) * N17 111)) := ⟨_, rfl⟩
                        rw [← eN18] at p_136
                        have fr18 : ∀ j, j ≠ 110 → j ≠ (zz + 1) → N18 j = N17 j := fun j h0 h1 => by rw [eN18, up1_n _ h1, up1_n _ h0]
                        obtain ⟨w_138, ew_138⟩ : ∃ g, g = u1 * w_91 := ⟨_, rfl⟩
                        have hv_139 : N18 110 = w_138 := by rw [eN18, up1_n _ (by omega), up1_s, hv_134, hv_135, ew_138]
                        have hb_140 : Bn w_138 776 := by rw [ew_138]; exact Bn.mul bu1 hb_93
                        obtain ⟨w_141, ew_141⟩ : ∃ g, g = w_131 + 1 * (u1 * w_91) := ⟨_, rfl⟩
                        have hv_142 : N18 (zz + 1) = w_141 := by rw [eN18, up1_s, hv_132, hv_134, hv_135, ew_141]
                        have hb_143 : Bn w_141 779 := by rw [ew_141]; exact Bn.add hb_133 ((Bn.mul bu1 hb_93).sg (by decide))
                        refine sy_iinc (lv1 := [(9, .int (iI 2)), (8, .int (iI 111)), (7, .int (iI 100)), (6, .int (iI 110)), (5, .int (iI ((zz : Nat) : Int))), (4, .int (iI ((xx : Nat) : Int))), (3, .int (iI ((pp : Nat) : Int))), (2, .int (iI ((f : Nat) : Int))), (0, .ref (ad 0)), (1, .int (iI ((t : Nat) : Int)))]) X d_M_smoothAt_283 hl 0 rfl (by omega) (by decide) rfl (fun ls hl => ?_)
                        refine sy_goto (tgt := 211) X d_M_smoothAt_286 (by decide) ?_
                        refine sy_iload X d_M_smoothAt_211 hl 0 rfl ?_
                        refine sy_iconst X d_M_smoothAt_213 ?_
                        refine sy_icmp_ge (tgt := 289) X d_M_smoothAt_214 (by decide) ⟨by decide, by decide⟩ ⟨by decide, by decide⟩ (fun c12 => ?_) (fun c12 => ?_)
                        · refine sy_aload_n X d_M_smoothAt_289 hl 8 rfl ?_
                          refine sy_iload X d_M_smoothAt_290 hl 4 rfl ?_
                          refine sy_iconst X d_M_smoothAt_292 ?_
                          refine sy_iadd X d_M_smoothAt_293 ?_
                          refine sy_bipush X d_M_smoothAt_294 (by decide) ?_
                          refine sy_bipush X d_M_smoothAt_296 (by decide) ?_
                          refine sy_bipush X d_M_smoothAt_298 (by decide) ?_
                          refine sy_bipush X d_M_smoothAt_300 (by decide) ?_
                          refine sy_iconst X d_M_smoothAt_302 ?_
                          refine sy_iload X d_M_smoothAt_303 hl 3 rfl ?_
                          have hv_144 : N18 106 = w_52 := (fr18 106 (by omega) (by omega)).trans ((fr17 106 (by omega)).trans ((fr16 106 (by omega) (by omega)).trans ((fr15 106 (by omega) (by omega)).trans ((fr14 106 (by omega)).trans ((fr13 106 (by omega) (by omega)).trans ((fr12 106 (by omega)).trans ((fr11 106 (by omega)).trans ((fr10 106 (by omega) (by omega)).trans ((fr9 106 (by omega) (by omega)).trans ((fr8 106 (by omega) (by omega)).trans (hv_53)))))))))))
                          have hv_145 : N18 96 = g0 := (fr18 96 (by omega) (by omega)).trans ((fr17 96 (by omega)).trans ((fr16 96 (by omega) (by omega)).trans ((fr15 96 (by omega) (by omega)).trans ((fr14 96 (by omega)).trans ((fr13 96 (by omega) (by omega)).trans (hv_94))))))
                          have hv_146 : N18 107 = w_61 := (fr18 107 (by omega) (by omega)).trans ((fr17 107 (by omega)).trans ((fr16 107 (by omega) (by omega)).trans ((fr15 107 (by omega) (by omega)).trans ((fr14 107 (by omega)).trans ((fr13 107 (by omega) (by omega)).trans ((fr12 107 (by omega)).trans ((fr11 107 (by omega)).trans ((fr10 107 (by omega) (by omega)).trans ((fr9 107 (by omega) (by omega)).trans (hv_62))))))))))
                          have hv_147 : N18 97 = g1 := (fr18 97 (by omega) (by omega)).trans ((fr17 97 (by omega)).trans ((fr16 97 (by omega) (by omega)).trans ((fr15 97 (by omega) (by omega)).trans ((fr14 97 (by omega)).trans ((fr13 97 (by omega) (by omega)).trans (hv_96))))))
                          refine call_Vv (Xs := []) (b := ad 0) (As := [.int (iI (((zz : Nat) : Int) + 2)), .int (iI 106), .int (iI 96), .int (iI 107), .int (iI 97), .int (iI 1), .int (iI 110)]) (rest := []) X lk_M_130 (c_M_crossed l D cs ad M_137 N18 (zz + 2) 106 96 107 97 1 110 778 778 (by omega) (by omega) (by omega) (by omega) (by omega) (by omega) (by omega) (by omega) (by omega) (by decide) p_136.1 (by rw [hv_144, hv_145]; exact Bn.mul hb_54 bg0) (by rw [hv_146, hv_147]; exact Bn.mul hb_63 bg1) (by decide) (by decide)) ⟨by decide, by decide⟩ rcv_M hw rfl hl.1 (Nat.le_of_ble_eq_true rfl) d_M_smoothAt_305 rfl rfl ⟨Nat.zero_le _, Nat.zero_le _⟩ (fun M_149 H locs p_148 hw => ?_)
                          obtain ⟨N19, p_148r, p_148s, p_148v, fr19⟩ := p_148
                          obtain ⟨w_150, ew_150⟩ : ∃ g, g = w_52 * g0 + 1 * (w_61 * g1) := ⟨_, rfl⟩
                          have hv_151 : N19 (zz + 2) = w_150 := by rw [p_148v, hv_144, hv_145, hv_146, hv_147, ew_150]
                          have hb_152 : Bn w_150 779 := by rw [ew_150]; exact Bn.add (Bn.mul hb_54 bg0) ((Bn.mul hb_63 bg1).sg (by decide))
                          refine sy_aload_n X d_M_smoothAt_308 hl 8 rfl ?_
                          refine sy_iload X d_M_smoothAt_309 hl 4 rfl ?_
                          refine sy_iconst X d_M_smoothAt_311 ?_
                          refine sy_iadd X d_M_smoothAt_312 ?_
                          refine sy_bipush X d_M_smoothAt_313 (by decide) ?_
                          refine sy_bipush X d_M_smoothAt_315 (by decide) ?_
                          refine sy_bipush X d_M_smoothAt_317 (by decide) ?_
                          refine sy_bipush X d_M_smoothAt_319 (by decide) ?_
                          refine sy_iconst X d_M_smoothAt_321 ?_
                          refine sy_iload X d_M_smoothAt_322 hl 3 rfl ?_
                          have hv_153 : N19 106 = w_52 := (fr19 106 (by omega) (by omega)).trans (hv_144)
                          have hv_154 : N19 98 = g2 := (fr19 98 (by omega) (by omega)).trans ((fr18 98 (by omega) (by omega)).trans ((fr17 98 (by omega)).trans ((fr16 98 (by omega) (by omega)).trans (hv_119))))
                          have hv_155 : N19 107 = w_61 := (fr19 107 (by omega) (by omega)).trans (hv_146)
                          have hv_156 : N19 99 = g3 := (fr19 99 (by omega) (by omega)).trans ((fr18 99 (by omega) (by omega)).trans ((fr17 99 (by omega)).trans ((fr16 99 (by omega) (by omega)).trans (hv_121))))
                          refine call_Vv (Xs := []) (b := ad 0) (As := [.int (iI (((zz : Nat) : Int) + 3)), .int (iI 106), .int (iI 98), .int (iI 107), .int (iI 99), .int (iI 1), .int (iI 110)]) (rest := []) X lk_M_130 (c_M_crossed l D cs ad M_149 N19 (zz + 3) 106 98 107 99 1 110 778 778 (by omega) (by omega) (by omega) (by omega) (by omega) (by omega) (by omega) (by omega) (by omega) (by decide) p_148r (by rw [hv_153, hv_154]; exact Bn.mul hb_54 bg2) (by rw [hv_155, hv_156]; exact Bn.mul hb_63 bg3) (by decide) (by decide)) ⟨by decide, by decide⟩ rcv_M hw rfl hl.1 (Nat.le_of_ble_eq_true rfl) d_M_smoothAt_324 rfl rfl ⟨Nat.zero_le _, Nat.zero_le _⟩ (fun M_158 H locs p_157 hw => ?_)
                          obtain ⟨N20, p_157r, p_157s, p_157v, fr20⟩ := p_157
                          obtain ⟨w_159, ew_159⟩ : ∃ g, g = w_52 * g2 + 1 * (w_61 * g3) := ⟨_, rfl⟩
                          have hv_160 : N20 (zz + 3) = w_159 := by rw [p_157v, hv_153, hv_154, hv_155, hv_156, ew_159]
                          have hb_161 : Bn w_159 779 := by rw [ew_159]; exact Bn.add (Bn.mul hb_54 bg2) ((Bn.mul hb_63 bg3).sg (by decide))
                          refine sy_aload_n X d_M_smoothAt_327 hl 8 rfl ?_
                          refine sy_iload X d_M_smoothAt_328 hl 4 rfl ?_
                          refine sy_iconst X d_M_smoothAt_330 ?_
                          refine sy_iadd X d_M_smoothAt_331 ?_
                          refine sy_bipush X d_M_smoothAt_332 (by decide) ?_
                          refine sy_bipush X d_M_smoothAt_334 (by decide) ?_
                          refine sy_bipush X d_M_smoothAt_336 (by decide) ?_
                          refine sy_bipush X d_M_smoothAt_338 (by decide) ?_
                          refine sy_iconst X d_M_smoothAt_340 ?_
                          refine sy_iload X d_M_smoothAt_341 hl 3 rfl ?_
                          have hv_162 : N20 108 = w_70 := (fr20 108 (by omega) (by omega)).trans ((fr19 108 (by omega) (by omega)).trans ((fr18 108 (by omega) (by omega)).trans ((fr17 108 (by omega)).trans ((fr16 108 (by omega) (by omega)).trans ((fr15 108 (by omega) (by omega)).trans ((fr14 108 (by omega)).trans ((fr13 108 (by omega) (by omega)).trans ((fr12 108 (by omega)).trans ((fr11 108 (by omega)).trans ((fr10 108 (by omega) (by omega)).trans (hv_71)))))))))))
                          have hv_163 : N20 98 = g2 := (fr20 98 (by omega) (by omega)).trans (hv_154)
                          have hv_164 : N20 109 = w_79 := (fr20 109 (by omega) (by omega)).trans ((fr19 109 (by omega) (by omega)).trans ((fr18 109 (by omega) (by omega)).trans ((fr17 109 (by omega)).trans ((fr16 109 (by omega) (by omega)).trans ((fr15 109 (by omega) (by omega)).trans ((fr14 109 (by omega)).trans ((fr13 109 (by omega) (by omega)).trans ((fr12 109 (by omega)).trans ((fr11 109 (by omega)).trans (hv_80))))))))))
                          have hv_165 : N20 99 = g3 := (fr20 99 (by omega) (by omega)).trans (hv_156)
                          refine call_Vv (Xs := []) (b := ad 0) (As := [.int (iI (((zz : Nat) : Int) + 4)), .int (iI 108), .int (iI 98), .int (iI 109), .int (iI 99), .int (iI 1), .int (iI 110)]) (rest := []) X lk_M_130 (c_M_crossed l D cs ad M_158 N20 (zz + 4) 108 98 109 99 1 110 778 778 (by omega) (by omega) (by omega) (by omega) (by omega) (by omega) (by omega) (by omega) (by omega) (by decide) p_157r (by rw [hv_162, hv_163]; exact Bn.mul hb_72 bg2) (by rw [hv_164, hv_165]; exact Bn.mul hb_81 bg3) (by decide) (by decide)) ⟨by decide, by decide⟩ rcv_M hw rfl hl.1 (Nat.le_of_ble_eq_true rfl) d_M_smoothAt_343 rfl rfl ⟨Nat.zero_le _, Nat.zero_le _⟩ (fun M_167 H locs p_166 hw => ?_)
                          obtain ⟨N21, p_166r, p_166s, p_166v, fr21⟩ := p_166
                          obtain ⟨w_168, ew_168⟩ : ∃ g, g = w_70 * g2 + 1 * (w_79 * g3) := ⟨_, rfl⟩
                          have hv_169 : N21 (zz + 4) = w_168 := by rw [p_166v, hv_162, hv_163, hv_164, hv_165, ew_168]
                          have hb_170 : Bn w_168 779 := by rw [ew_168]; exact Bn.add (Bn.mul hb_72 bg2) ((Bn.mul hb_81 bg3).sg (by decide))
                          refine sy_iconst X d_M_smoothAt_346 ?_
                          refine sy_istore (lv1 := [(9, .int (iI 2)), (8, .int (iI 111)), (7, .int (iI 100)), (6, .int (iI 110)), (5, .int (iI ((zz : Nat) : Int))), (4, .int (iI ((xx : Nat) : Int))), (3, .int (iI ((pp : Nat) : Int))), (2, .int (iI ((f : Nat) : Int))), (0, .ref (ad 0)), (1, .int (iI ((t : Nat) : Int)))]) X d_M_smoothAt_347 hl (by decide) rfl (fun ls hl => ?_)
                          refine sy_iload X d_M_smoothAt_349 hl 0 rfl ?_
                          refine sy_iconst X d_M_smoothAt_351 ?_
                          refine sy_icmp_ge (tgt := 379) X d_M_smoothAt_352 (by decide) ⟨by decide, by decide⟩ ⟨by decide, by decide⟩ (fun c13 => ?_) (fun c13 => ?_)
                          · exact absurd c13 (by decide)
                          · refine sy_aload_n X d_M_smoothAt_355 hl 8 rfl ?_
                            refine sy_iload X d_M_smoothAt_356 hl 4 rfl ?_
                            refine sy_iload X d_M_smoothAt_358 hl 0 rfl ?_
                            refine sy_iadd X d_M_smoothAt_360 ?_
                            refine sy_iload_n X d_M_smoothAt_361 hl 7 rfl ?_
                            refine sy_iload X d_M_smoothAt_362 hl 0 rfl ?_
                            refine sy_iadd X d_M_smoothAt_364 ?_
                            refine sy_iload X d_M_smoothAt_365 hl 1 rfl ?_
                            refine sy_iconst X d_M_smoothAt_367 ?_
                            refine sy_iload X d_M_smoothAt_368 hl 3 rfl ?_
                            have hv_171 : N21 (f + 2) = u2 := (fr21 (f + 2) (by omega) (by omega)).trans ((fr20 (f + 2) (by omega) (by omega)).trans ((fr19 (f + 2) (by omega) (by omega)).trans ((fr18 (f + 2) (by omega) (by omega)).trans ((fr17 (f + 2) (by omega)).trans ((fr16 (f + 2) (by omega) (by omega)).trans ((fr15 (f + 2) (by omega) (by omega)).trans ((fr14 (f + 2) (by omega)).trans ((fr13 (f + 2) (by omega) (by omega)).trans ((fr12 (f + 2) (by omega)).trans ((fr11 (f + 2) (by omega)).trans ((fr10 (f + 2) (by omega) (by omega)).trans ((fr9 (f + 2) (by omega) (by omega)).trans ((fr8 (f + 2) (by omega) (by omega)).trans ((fr7 (f + 2) (by omega) (by omega)).trans ((fr6 (f + 2) (by omega) (by omega)).trans ((fr5 (f + 2) (by omega) (by omega)).trans ((fr4 (f + 2) (by omega) (by omega)).trans ((fr3 (f + 2) (by omega) (by omega)).trans ((fr2 (f + 2) (by omega) (by omega)).trans ((fr1 (f + 2) (by omega)).trans (hu2)))))))))))))))))))))
                            have hv_172 : N21 111 = w_91 := (fr21 111 (by omega) (by omega)).trans ((fr20 111 (by omega) (by omega)).trans ((fr19 111 (by omega) (by omega)).trans ((fr18 111 (by omega) (by omega)).trans (hv_135))))
                            have hv_173 : N21 (zz + 2) = w_150 := (fr21 (zz + 2) (by omega) (by omega)).trans ((fr20 (zz + 2) (by omega) (by omega)).trans (hv_151))
                            refine call_Vv (Xs := []) (b := ad 0) (As := [.int (iI (((zz : Nat) : Int) + 2)), .int (iI (((f : Nat) : Int) + 2)), .int (iI 111), .int (iI 1), .int (iI 110)]) (rest := []) X lk_M_120 (c_M_join l D cs ad M_167 N21 (zz + 2) (f + 2) 111 1 110 (by omega) (by omega) (by omega) (by omega) (by omega) (by decide) p_166r (by rw [hv_171, hv_172]; exact Bn.fin (Bn.mul bu2 hb_93) (by decide)) (by rw [hv_173, hv_171, hv_172]; exact Bn.fin (Bn.add hb_152 ((Bn.mul bu2 hb_93).sg (by decide))) (by decide))) ⟨by decide, by decide⟩ rcv_M hw rfl hl.1 (Nat.le_of_ble_eq_true rfl) d_M_smoothAt_370 rfl rfl ⟨Nat.zero_le _, Nat.zero_le _⟩ (fun M_175 H locs p_174 hw => ?_)
                            obtain ⟨N22, eN22⟩ : ∃ g, g = up1 (up1 N21 110 (N21 (f + 2) * N21 111)) (zz + 2) (N21 (zz + 2) + 1 * (N21 (f + 2) * N21 111)) := ⟨_, rfl⟩
                            rw [← eN22] at p_174
                            have fr22 : ∀ j, j ≠ 110 → j ≠ (zz + 2) → N22 j = N21 j := fun j h0 h1 => by rw [eN22, up1_n _ h1, up1_n _ h0]
                            obtain ⟨w_176, ew_176⟩ : ∃ g, g = u2 * w_91 := ⟨_, rfl⟩
                            have hv_177 : N22 110 = w_176 := by rw [eN22, up1_n _ (by omega), up1_s, hv_171, hv_172, ew_176]
                            have hb_178 : Bn w_176 776 := by rw [ew_176]; exact Bn.mul bu2 hb_93
                            obtain ⟨w_179, ew_179⟩ : ∃ g, g = w_150 + 1 * (u2 * w_91) := ⟨_, rfl⟩
                            have hv_180 : N22 (zz + 2) = w_179 := by rw [eN22, up1_s, hv_173, hv_171, hv_172, ew_179]
                            have hb_181 : Bn w_179 780 := by rw [ew_179]; exact Bn.add hb_152 ((Bn.mul bu2 hb_93).sg (by decide))
                            refine sy_iinc (lv1 := [(9, .int (iI 3)), (8, .int (iI 111)), (7, .int (iI 100)), (6, .int (iI 110)), (5, .int (iI ((zz : Nat) : Int))), (4, .int (iI ((xx : Nat) : Int))), (3, .int (iI ((pp : Nat) : Int))), (2, .int (iI ((f : Nat) : Int))), (0, .ref (ad 0)), (1, .int (iI ((t : Nat) : Int)))]) X d_M_smoothAt_373 hl 0 rfl (by omega) (by decide) rfl (fun ls hl => ?_)
                            refine sy_goto (tgt := 349) X d_M_smoothAt_376 (by decide) ?_
                            refine sy_iload X d_M_smoothAt_349 hl 0 rfl ?_
                            refine sy_iconst X d_M_smoothAt_351 ?_
                            refine sy_icmp_ge (tgt := 379) X d_M_smoothAt_352 (by decide) ⟨by decide, by decide⟩ ⟨by decide, by decide⟩ (fun c14 => ?_) (fun c14 => ?_)
                            · exact absurd c14 (by decide)
                            · refine sy_aload_n X d_M_smoothAt_355 hl 8 rfl ?_
                              refine sy_iload X d_M_smoothAt_356 hl 4 rfl ?_
                              refine sy_iload X d_M_smoothAt_358 hl 0 rfl ?_
                              refine sy_iadd X d_M_smoothAt_360 ?_
                              refine sy_iload_n X d_M_smoothAt_361 hl 7 rfl ?_
                              refine sy_iload X d_M_smoothAt_362 hl 0 rfl ?_
                              refine sy_iadd X d_M_smoothAt_364 ?_
                              refine sy_iload X d_M_smoothAt_365 hl 1 rfl ?_
                              refine sy_iconst X d_M_smoothAt_367 ?_
                              refine sy_iload X d_M_smoothAt_368 hl 3 rfl ?_
                              have hv_182 : N22 (f + 3) = u3 := (fr22 (f + 3) (by omega) (by omega)).trans ((fr21 (f + 3) (by omega) (by omega)).trans ((fr20 (f + 3) (by omega) (by omega)).trans ((fr19 (f + 3) (by omega) (by omega)).trans ((fr18 (f + 3) (by omega) (by omega)).trans ((fr17 (f + 3) (by omega)).trans ((fr16 (f + 3) (by omega) (by omega)).trans ((fr15 (f + 3) (by omega) (by omega)).trans ((fr14 (f + 3) (by omega)).trans ((fr13 (f + 3) (by omega) (by omega)).trans ((fr12 (f + 3) (by omega)).trans ((fr11 (f + 3) (by omega)).trans ((fr10 (f + 3) (by omega) (by omega)).trans ((fr9 (f + 3) (by omega) (by omega)).trans ((fr8 (f + 3) (by omega) (by omega)).trans ((fr7 (f + 3) (by omega) (by omega)).trans ((fr6 (f + 3) (by omega) (by omega)).trans ((fr5 (f + 3) (by omega) (by omega)).trans ((fr4 (f + 3) (by omega) (by omega)).trans ((fr3 (f + 3) (by omega) (by omega)).trans ((fr2 (f + 3) (by omega) (by omega)).trans ((fr1 (f + 3) (by omega)).trans (hu3))))))))))))))))))))))
                              have hv_183 : N22 111 = w_91 := (fr22 111 (by omega) (by omega)).trans (hv_172)
                              have hv_184 : N22 (zz + 3) = w_159 := (fr22 (zz + 3) (by omega) (by omega)).trans ((fr21 (zz + 3) (by omega) (by omega)).trans (hv_160))
                              refine call_Vv (Xs := []) (b := ad 0) (As := [.int (iI (((zz : Nat) : Int) + 3)), .int (iI (((f : Nat) : Int) + 3)), .int (iI 111), .int (iI 1), .int (iI 110)]) (rest := []) X lk_M_120 (c_M_join l D cs ad M_175 N22 (zz + 3) (f + 3) 111 1 110 (by omega) (by omega) (by omega) (by omega) (by omega) (by decide) p_174.1 (by rw [hv_182, hv_183]; exact Bn.fin (Bn.mul bu3 hb_93) (by decide)) (by rw [hv_184, hv_182, hv_183]; exact Bn.fin (Bn.add hb_161 ((Bn.mul bu3 hb_93).sg (by decide))) (by decide))) ⟨by decide, by decide⟩ rcv_M hw rfl hl.1 (Nat.le_of_ble_eq_true rfl) d_M_smoothAt_370 rfl rfl ⟨Nat.zero_le _, Nat.zero_le _⟩ (fun M_186 H locs p_185 hw => ?_)
                              obtain ⟨N23, eN23⟩ : ∃ g, g = up1 (up1 N22 110 (N22 (f + 3) * N22 111)) (zz + 3) (N22 (zz + 3) + 1 * (N22 (f + 3) * N22 111)) := ⟨_, rfl⟩
                              rw [← eN23] at p_185
                              have fr23 : ∀ j, j ≠ 110 → j ≠ (zz + 3) → N23 j = N22 j := fun j h0 h1 => by rw [eN23, up1_n _ h1, up1_n _ h0]
                              obtain ⟨w_187, ew_187⟩ : ∃ g, g = u3 * w_91 := ⟨_, rfl⟩
                              have hv_188 : N23 110 = w_187 := by rw [eN23, up1_n _ (by omega), up1_s, hv_182, hv_183, ew_187]
                              have hb_189 : Bn w_187 776 := by rw [ew_187]; exact Bn.mul bu3 hb_93
                              obtain ⟨w_190, ew_190⟩ : ∃ g, g = w_159 + 1 * (u3 * w_91) := ⟨_, rfl⟩
                              have hv_191 : N23 (zz + 3) = w_190 := by rw [eN23, up1_s, hv_184, hv_182, hv_183, ew_190]
                              have hb_192 : Bn w_190 780 := by rw [ew_190]; exact Bn.add hb_161 ((Bn.mul bu3 hb_93).sg (by decide))
                              refine sy_iinc (lv1 := [(9, .int (iI 4)), (8, .int (iI 111)), (7, .int (iI 100)), (6, .int (iI 110)), (5, .int (iI ((zz : Nat) : Int))), (4, .int (iI ((xx : Nat) : Int))), (3, .int (iI ((pp : Nat) : Int))), (2, .int (iI ((f : Nat) : Int))), (0, .ref (ad 0)), (1, .int (iI ((t : Nat) : Int)))]) X d_M_smoothAt_373 hl 0 rfl (by omega) (by decide) rfl (fun ls hl => ?_)
                              refine sy_goto (tgt := 349) X d_M_smoothAt_376 (by decide) ?_
                              refine sy_iload X d_M_smoothAt_349 hl 0 rfl ?_
                              refine sy_iconst X d_M_smoothAt_351 ?_
                              refine sy_icmp_ge (tgt := 379) X d_M_smoothAt_352 (by decide) ⟨by decide, by decide⟩ ⟨by decide, by decide⟩ (fun c15 => ?_) (fun c15 => ?_)
                              · exact absurd c15 (by decide)
                              · refine sy_aload_n X d_M_smoothAt_355 hl 8 rfl ?_
                                refine sy_iload X d_M_smoothAt_356 hl 4 rfl ?_
                                refine sy_iload X d_M_smoothAt_358 hl 0 rfl ?_
                                refine sy_iadd X d_M_smoothAt_360 ?_
                                refine sy_iload_n X d_M_smoothAt_361 hl 7 rfl ?_
                                refine sy_iload X d_M_smoothAt_362 hl 0 rfl ?_
                                refine sy_iadd X d_M_smoothAt_364 ?_
                                refine sy_iload X d_M_smoothAt_365 hl 1 rfl ?_
                                refine sy_iconst X d_M_smoothAt_367 ?_
                                refine sy_iload X d_M_smoothAt_368 hl 3 rfl ?_
                                have hv_193 : N23 (f + 4) = u4 := (fr23 (f + 4) (by omega) (by omega)).trans ((fr22 (f + 4) (by omega) (by omega)).trans ((fr21 (f + 4) (by omega) (by omega)).trans ((fr20 (f + 4) (by omega) (by omega)).trans ((fr19 (f + 4) (by omega) (by omega)).trans ((fr18 (f + 4) (by omega) (by omega)).trans ((fr17 (f + 4) (by omega)).trans ((fr16 (f + 4) (by omega) (by omega)).trans ((fr15 (f + 4) (by omega) (by omega)).trans ((fr14 (f + 4) (by omega)).trans ((fr13 (f + 4) (by omega) (by omega)).trans ((fr12 (f + 4) (by omega)).trans ((fr11 (f + 4) (by omega)).trans ((fr10 (f + 4) (by omega) (by omega)).trans ((fr9 (f + 4) (by omega) (by omega)).trans ((fr8 (f + 4) (by omega) (by omega)).trans ((fr7 (f + 4) (by omega) (by omega)).trans ((fr6 (f + 4) (by omega) (by omega)).trans ((fr5 (f + 4) (by omega) (by omega)).trans ((fr4 (f + 4) (by omega) (by omega)).trans ((fr3 (f + 4) (by omega) (by omega)).trans ((fr2 (f + 4) (by omega) (by omega)).trans ((fr1 (f + 4) (by omega)).trans (hu4)))))))))))))))))))))))
                                have hv_194 : N23 111 = w_91 := (fr23 111 (by omega) (by omega)).trans (hv_183)
                                have hv_195 : N23 (zz + 4) = w_168 := (fr23 (zz + 4) (by omega) (by omega)).trans ((fr22 (zz + 4) (by omega) (by omega)).trans (hv_169))
                                refine call_Vv (Xs := []) (b := ad 0) (As := [.int (iI (((zz : Nat) : Int) + 4)), .int (iI (((f : Nat) : Int) + 4)), .int (iI 111), .int (iI 1), .int (iI 110)]) (rest := []) X lk_M_120 (c_M_join l D cs ad M_186 N23 (zz + 4) (f + 4) 111 1 110 (by omega) (by omega) (by omega) (by omega) (by omega) (by decide) p_185.1 (by rw [hv_193, hv_194]; exact Bn.fin (Bn.mul bu4 hb_93) (by decide)) (by rw [hv_195, hv_193, hv_194]; exact Bn.fin (Bn.add hb_170 ((Bn.mul bu4 hb_93).sg (by decide))) (by decide))) ⟨by decide, by decide⟩ rcv_M hw rfl hl.1 (Nat.le_of_ble_eq_true rfl) d_M_smoothAt_370 rfl rfl ⟨Nat.zero_le _, Nat.zero_le _⟩ (fun M_197 H locs p_196 hw => ?_)
                                obtain ⟨N24, eN24⟩ : ∃ g, g = up1 (up1 N23 110 (N23 (f + 4) * N23 111)) (zz + 4) (N23 (zz + 4) + 1 * (N23 (f + 4) * N23 111)) := ⟨_, rfl⟩
                                rw [← eN24] at p_196
                                have fr24 : ∀ j, j ≠ 110 → j ≠ (zz + 4) → N24 j = N23 j := fun j h0 h1 => by rw [eN24, up1_n _ h1, up1_n _ h0]
                                obtain ⟨w_198, ew_198⟩ : ∃ g, g = u4 * w_91 := ⟨_, rfl⟩
                                have hv_199 : N24 110 = w_198 := by rw [eN24, up1_n _ (by omega), up1_s, hv_193, hv_194, ew_198]
                                have hb_200 : Bn w_198 776 := by rw [ew_198]; exact Bn.mul bu4 hb_93
                                obtain ⟨w_201, ew_201⟩ : ∃ g, g = w_168 + 1 * (u4 * w_91) := ⟨_, rfl⟩
                                have hv_202 : N24 (zz + 4) = w_201 := by rw [eN24, up1_s, hv_195, hv_193, hv_194, ew_201]
                                have hb_203 : Bn w_201 780 := by rw [ew_201]; exact Bn.add hb_170 ((Bn.mul bu4 hb_93).sg (by decide))
                                refine sy_iinc (lv1 := [(9, .int (iI 5)), (8, .int (iI 111)), (7, .int (iI 100)), (6, .int (iI 110)), (5, .int (iI ((zz : Nat) : Int))), (4, .int (iI ((xx : Nat) : Int))), (3, .int (iI ((pp : Nat) : Int))), (2, .int (iI ((f : Nat) : Int))), (0, .ref (ad 0)), (1, .int (iI ((t : Nat) : Int)))]) X d_M_smoothAt_373 hl 0 rfl (by omega) (by decide) rfl (fun ls hl => ?_)
                                refine sy_goto (tgt := 349) X d_M_smoothAt_376 (by decide) ?_
                                refine sy_iload X d_M_smoothAt_349 hl 0 rfl ?_
                                refine sy_iconst X d_M_smoothAt_351 ?_
                                refine sy_icmp_ge (tgt := 379) X d_M_smoothAt_352 (by decide) ⟨by decide, by decide⟩ ⟨by decide, by decide⟩ (fun c16 => ?_) (fun c16 => ?_)
                                · refine sy_aload_n X d_M_smoothAt_379 hl 8 rfl ?_
                                  refine sy_iload X d_M_smoothAt_380 hl 4 rfl ?_
                                  refine sy_iconst X d_M_smoothAt_382 ?_
                                  refine sy_iadd X d_M_smoothAt_383 ?_
                                  refine sy_iload X d_M_smoothAt_384 hl 1 rfl ?_
                                  refine sy_iload_n X d_M_smoothAt_386 hl 7 rfl ?_
                                  refine sy_iconst X d_M_smoothAt_387 ?_
                                  refine sy_iadd X d_M_smoothAt_388 ?_
                                  have hv_204 : N24 111 = w_91 := (fr24 111 (by omega) (by omega)).trans (hv_194)
                                  have hv_205 : N24 (f + 5) = u5 := (fr24 (f + 5) (by omega) (by omega)).trans ((fr23 (f + 5) (by omega) (by omega)).trans ((fr22 (f + 5) (by omega) (by omega)).trans ((fr21 (f + 5) (by omega) (by omega)).trans ((fr20 (f + 5) (by omega) (by omega)).trans ((fr19 (f + 5) (by omega) (by omega)).trans ((fr18 (f + 5) (by omega) (by omega)).trans ((fr17 (f + 5) (by omega)).trans ((fr16 (f + 5) (by omega) (by omega)).trans ((fr15 (f + 5) (by omega) (by omega)).trans ((fr14 (f + 5) (by omega)).trans ((fr13 (f + 5) (by omega) (by omega)).trans ((fr12 (f + 5) (by omega)).trans ((fr11 (f + 5) (by omega)).trans ((fr10 (f + 5) (by omega) (by omega)).trans ((fr9 (f + 5) (by omega) (by omega)).trans ((fr8 (f + 5) (by omega) (by omega)).trans ((fr7 (f + 5) (by omega) (by omega)).trans ((fr6 (f + 5) (by omega) (by omega)).trans ((fr5 (f + 5) (by omega) (by omega)).trans ((fr4 (f + 5) (by omega) (by omega)).trans ((fr3 (f + 5) (by omega) (by omega)).trans ((fr2 (f + 5) (by omega) (by omega)).trans ((fr1 (f + 5) (by omega)).trans (hu5))))))))))))))))))))))))
                                  refine call_Vv (Xs := []) (b := ad 0) (As := [.int (iI (((zz : Nat) : Int) + 5)), .int (iI 111), .int (iI (((f : Nat) : Int) + 5))]) (rest := []) X lk_M_59 (c_M_times l D cs ad M_197 N24 (zz + 5) 111 (f + 5) (by omega) (by omega) (by omega) p_196.1 (by rw [hv_204, hv_205]; exact Bn.fin (Bn.mul hb_93 bu5) (by decide))) ⟨by decide, by decide⟩ rcv_M hw rfl hl.1 (Nat.le_of_ble_eq_true rfl) d_M_smoothAt_389 rfl rfl ⟨Nat.zero_le _, Nat.zero_le _⟩ (fun M_207 H locs p_206 hw => ?_)
                                  obtain ⟨N25, eN25⟩ : ∃ g, g = up1 N24 (zz + 5) (N24 111 * N24 (f + 5)) := ⟨_, rfl⟩
                                  rw [← eN25] at p_206
                                  have fr25 : ∀ j, j ≠ (zz + 5) → N25 j = N24 j := fun j h0 => by rw [eN25, up1_n _ h0]
                                  obtain ⟨w_208, ew_208⟩ : ∃ g, g = w_91 * u5 := ⟨_, rfl⟩
                                  have hv_209 : N25 (zz + 5) = w_208 := by rw [eN25, up1_s, hv_204, hv_205, ew_208]
                                  have hb_210 : Bn w_208 776 := by rw [ew_208]; exact Bn.mul hb_93 bu5
                                  refine sy_aload_n X d_M_smoothAt_392 hl 8 rfl ?_
                                  refine sy_iload X d_M_smoothAt_393 hl 4 rfl ?_
                                  refine sy_bipush X d_M_smoothAt_395 (by decide) ?_
                                  have hv_211 : N25 zz = w_116 := (fr25 zz (by omega)).trans ((fr24 zz (by omega) (by omega)).trans ((fr23 zz (by omega) (by omega)).trans ((fr22 zz (by omega) (by omega)).trans ((fr21 zz (by omega) (by omega)).trans ((fr20 zz (by omega) (by omega)).trans ((fr19 zz (by omega) (by omega)).trans ((fr18 zz (by omega) (by omega)).trans ((fr17 zz (by omega)).trans ((fr16 zz (by omega) (by omega)).trans (hv_117))))))))))
                                  have hv_212 : N25 (zz + 1) = w_141 := (fr25 (zz + 1) (by omega)).trans ((fr24 (zz + 1) (by omega) (by omega)).trans ((fr23 (zz + 1) (by omega) (by omega)).trans ((fr22 (zz + 1) (by omega) (by omega)).trans ((fr21 (zz + 1) (by omega) (by omega)).trans ((fr20 (zz + 1) (by omega) (by omega)).trans ((fr19 (zz + 1) (by omega) (by omega)).trans (hv_142)))))))
                                  have hv_213 : N25 (zz + 2) = w_179 := (fr25 (zz + 2) (by omega)).trans ((fr24 (zz + 2) (by omega) (by omega)).trans ((fr23 (zz + 2) (by omega) (by omega)).trans (hv_180)))
                                  have hv_214 : N25 (zz + 3) = w_190 := (fr25 (zz + 3) (by omega)).trans ((fr24 (zz + 3) (by omega) (by omega)).trans (hv_191))
                                  have hv_215 : N25 (zz + 4) = w_201 := (fr25 (zz + 4) (by omega)).trans (hv_202)
                                  have hV0 : N25 (zz + 0) = smV U Pv Xv C 0 := by
                                    simp only [smV, ← hGe]
                                    simp only [smW, U0_, U1_, U2_, U3_, U4_, U5_, Pv0_, Pv1_, Pv2_, Pv3_, Pv4_, Pv5_, Xv0_, Xv1_, Xv2_, Xv3_, Xv4_, Xv5_, eg0, eg1, eg2, eg3, eg4]
                                    rw [show zz + 0 = zz from rfl, hv_211]
                                    simp only [ew_208, ew_201, ew_198, ew_190, ew_187, ew_179, ew_176, ew_168, ew_159, ew_150, ew_141, ew_138, ew_131, ew_125, ew_116, ew_113, ew_106, ew_100, ew_91, ew_85, ew_79, ew_70, ew_61, ew_52, ew_43, ew_34, ew_25, ew_16, ew_7]
                                  have hV1 : N25 (zz + 1) = smV U Pv Xv C 1 := by
                                    simp only [smV, ← hGe]
                                    simp only [smW, U0_, U1_, U2_, U3_, U4_, U5_, Pv0_, Pv1_, Pv2_, Pv3_, Pv4_, Pv5_, Xv0_, Xv1_, Xv2_, Xv3_, Xv4_, Xv5_, eg0, eg1, eg2, eg3, eg4]
                                    rw [hv_212]
                                    simp only [ew_208, ew_201, ew_198, ew_190, ew_187, ew_179, ew_176, ew_168, ew_159, ew_150, ew_141, ew_138, ew_131, ew_125, ew_116, ew_113, ew_106, ew_100, ew_91, ew_85, ew_79, ew_70, ew_61, ew_52, ew_43, ew_34, ew_25, ew_16, ew_7]
                                  have hV2 : N25 (zz + 2) = smV U Pv Xv C 2 := by
                                    simp only [smV, ← hGe]
                                    simp only [smW, U0_, U1_, U2_, U3_, U4_, U5_, Pv0_, Pv1_, Pv2_, Pv3_, Pv4_, Pv5_, Xv0_, Xv1_, Xv2_, Xv3_, Xv4_, Xv5_, eg0, eg1, eg2, eg3, eg4]
                                    rw [hv_213]
                                    simp only [ew_208, ew_201, ew_198, ew_190, ew_187, ew_179, ew_176, ew_168, ew_159, ew_150, ew_141, ew_138, ew_131, ew_125, ew_116, ew_113, ew_106, ew_100, ew_91, ew_85, ew_79, ew_70, ew_61, ew_52, ew_43, ew_34, ew_25, ew_16, ew_7]
                                  have hV3 : N25 (zz + 3) = smV U Pv Xv C 3 := by
                                    simp only [smV, ← hGe]
                                    simp only [smW, U0_, U1_, U2_, U3_, U4_, U5_, Pv0_, Pv1_, Pv2_, Pv3_, Pv4_, Pv5_, Xv0_, Xv1_, Xv2_, Xv3_, Xv4_, Xv5_, eg0, eg1, eg2, eg3, eg4]
                                    rw [hv_214]
                                    simp only [ew_208, ew_201, ew_198, ew_190, ew_187, ew_179, ew_176, ew_168, ew_159, ew_150, ew_141, ew_138, ew_131, ew_125, ew_116, ew_113, ew_106, ew_100, ew_91, ew_85, ew_79, ew_70, ew_61, ew_52, ew_43, ew_34, ew_25, ew_16, ew_7]
                                  have hV4 : N25 (zz + 4) = smV U Pv Xv C 4 := by
                                    simp only [smV, ← hGe]
                                    simp only [smW, U0_, U1_, U2_, U3_, U4_, U5_, Pv0_, Pv1_, Pv2_, Pv3_, Pv4_, Pv5_, Xv0_, Xv1_, Xv2_, Xv3_, Xv4_, Xv5_, eg0, eg1, eg2, eg3, eg4]
                                    rw [hv_215]
                                    simp only [ew_208, ew_201, ew_198, ew_190, ew_187, ew_179, ew_176, ew_168, ew_159, ew_150, ew_141, ew_138, ew_131, ew_125, ew_116, ew_113, ew_106, ew_100, ew_91, ew_85, ew_79, ew_70, ew_61, ew_52, ew_43, ew_34, ew_25, ew_16, ew_7]
                                  have hV5 : N25 (zz + 5) = smV U Pv Xv C 5 := by
                                    simp only [smV, ← hGe]
                                    simp only [smW, U0_, U1_, U2_, U3_, U4_, U5_, Pv0_, Pv1_, Pv2_, Pv3_, Pv4_, Pv5_, Xv0_, Xv1_, Xv2_, Xv3_, Xv4_, Xv5_, eg0, eg1, eg2, eg3, eg4]
                                    rw [hv_209]
                                    simp only [ew_208, ew_201, ew_198, ew_190, ew_187, ew_179, ew_176, ew_168, ew_159, ew_150, ew_141, ew_138, ew_131, ew_125, ew_116, ew_113, ew_106, ew_100, ew_91, ew_85, ew_79, ew_70, ew_61, ew_52, ew_43, ew_34, ew_25, ew_16, ew_7]
                                  have hVa : ∀ i, i < 6 → N25 (zz + i) = smV U Pv Xv C i := fun i hi => by
                                    have : i = 0 ∨ i = 1 ∨ i = 2 ∨ i = 3 ∨ i = 4 ∨ i = 5 := by omega
                                    rcases this with e | e | e | e | e | e <;> subst e <;> assumption
                                  have hps : 0 < N25 (zz + 6 - 1) := by
                                    rw [show zz + 6 - 1 = zz + 5 by omega, hv_209]
                                    simp only [ew_208, ew_201, ew_198, ew_190, ew_187, ew_179, ew_176, ew_168, ew_159, ew_150, ew_141, ew_138, ew_131, ew_125, ew_116, ew_113, ew_106, ew_100, ew_91, ew_85, ew_79, ew_70, ew_61, ew_52, ew_43, ew_34, ew_25, ew_16, ew_7]
                                    exact Int.mul_pos (Int.mul_pos (Int.mul_pos hg4p hg4p) hx0p) hu0p
                                  refine call_Vv (Xs := []) (b := ad 0) (As := [.int (iI ((zz : Nat) : Int)), .int (iI 6)]) (rest := []) X lk_M_123 (c_M_shrink l D cs ad M_207 N25 zz 6 (by decide) (by omega) p_206.1 hps) ⟨by decide, by decide⟩ rcv_M hw rfl hl.1 (Nat.le_of_ble_eq_true rfl) d_M_smoothAt_397 rfl rfl ⟨Nat.zero_le _, Nat.zero_le _⟩ (fun Mz H locs pz hw => ?_)
                                  obtain ⟨Nz, pzr, pzs, pzv⟩ := pz
                                  have hG : gF (N25 (zz + 6 - 1)) (fun i => N25 (zz + i)) (6 - 1) = gF (smV U Pv Xv C 5) (smV U Pv Xv C) 5 := by
                                    rw [show zz + 6 - 1 = zz + 5 by omega, hV5]; exact gF_congr (fun i hi => hVa i (by omega))
                                  rw [hG] at pzv
                                  exact kr Mz _ _ _ _ d_M_smoothAt_400 hw ⟨Nz, pzr, ((((((((((((((((((((((((pgs.tr p_5s).tr p_14s).tr p_23s).tr p_32s).tr p_41s).tr p_50s).tr p_59s).tr p_68s).tr p_77s).tr p_83.2).tr p_89.2).tr p_98s).tr p_104.2).tr p_111.2).tr p_123s).tr p_129.2).tr p_136.2).tr p_148s).tr p_157s).tr p_166s).tr p_174.2).tr p_185.2).tr p_196.2).tr p_206.2).tr pzs, fun i hi => by show Nz (zz + i) = _; rw [pzv _ (by omega), if_pos (by omega), hVa i hi], fun j hj h1 => by rw [pzv j (by omega), if_neg (by omega)]; exact (fr25 j (by omega)).trans ((fr24 j (by omega) (by omega)).trans ((fr23 j (by omega) (by omega)).trans ((fr22 j (by omega) (by omega)).trans ((fr21 j (by omega) (by omega)).trans ((fr20 j (by omega) (by omega)).trans ((fr19 j (by omega) (by omega)).trans ((fr18 j (by omega) (by omega)).trans ((fr17 j (by omega)).trans ((fr16 j (by omega) (by omega)).trans ((fr15 j (by omega) (by omega)).trans ((fr14 j (by omega)).trans ((fr13 j (by omega) (by omega)).trans ((fr12 j (by omega)).trans ((fr11 j (by omega)).trans ((fr10 j (by omega) (by omega)).trans ((fr9 j (by omega) (by omega)).trans ((fr8 j (by omega) (by omega)).trans ((fr7 j (by omega) (by omega)).trans ((fr6 j (by omega) (by omega)).trans ((fr5 j (by omega) (by omega)).trans ((fr4 j (by omega) (by omega)).trans ((fr3 j (by omega) (by omega)).trans ((fr2 j (by omega) (by omega)).trans ((fr1 j (by omega)).trans (rfl)))))))))))))))))))))))))⟩
                                · exact absurd c16 (by decide)
                        · exact absurd c12 (by decide)
                  · exact absurd c9 (by decide)
            · exact absurd c6 (by decide)
