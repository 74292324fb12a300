theorem Rep.sq {M : Nat → Nat → Int} {N : Nat → Int} {z : Nat} (h : Rep M N) (hz : z < 120) : Rep (up2 M 3 z (M 3 z * M 3 z)) (up1 N z ((N z).natAbs : Int)) := by
  refine Rep.up h (fun j _ => by rw [up2_n _ (by decide)]) (fun y _ => by rw [up2_n _ (by decide)]) (fun y hy => by rw [up2_a, up1_n _ hy]) ?_
  obtain ⟨u, h1, h2, h3, h4, h5, h6⟩ := h z hz
  refine ⟨u, by rw [up2_n _ (by decide)]; exact h1, h2, by rw [up2_n _ (by decide)]; exact h3, by rw [up2_n _ (by decide), h4]; omega, by rw [up2_n _ (by decide)]; exact h5, ?_⟩
  rw [up2_s, h6]
  rcases sgn_1 (N z) with ⟨g1, g2⟩ | ⟨g1, g2⟩ | ⟨g1, g2⟩ <;> rw [g1]
  · rw [sgn_pos (by omega)]; rfl
  · rw [sgn_pos (by omega)]; rfl
  · rw [sgn_0 (by omega)]; rfl
theorem gcd_mod (a b : Int) (ha : 0 ≤ a) (hb : 0 ≤ b) : Int.gcd b ((a.natAbs : Int) % (b.natAbs : Int)) = Int.gcd a b := by
  have e : ((a.natAbs : Int) % (b.natAbs : Int)) = ((a.natAbs % b.natAbs : Nat) : Int) := by simp
  rw [e]
  show Nat.gcd b.natAbs (a.natAbs % b.natAbs : Nat) = Nat.gcd a.natAbs b.natAbs
  rw [Nat.gcd_comm a.natAbs, Nat.gcd_rec b.natAbs a.natAbs, Nat.gcd_comm]
set_option maxRecDepth 100000 in
set_option maxHeartbeats 4000000 in
theorem c_M_common (l : Launch) (D : va_G) (cs : Nat → ClassId) (ad : Nat → Nat) (M : Nat → Nat → Int) (N : Nat → Int) (z x a b : Nat) (hz : z < 120) (hx : x < 120) (ha : a < 120) (hb : b < 120) (hza : z ≠ a) (hzb : z ≠ b) (hab : a ≠ b) (hxa : x ≠ a) (hR : Rep M N) : Ct (S := Nat → Nat → Int) l D (tyL cs) y_M_common b_M_common 5 none (rm 5) [.ref (ad 0), .int (iI ((z : Nat) : Int)), .int (iI ((x : Nat) : Int)), .int (iI ((a : Nat) : Int)), .int (iI ((b : Nat) : Int))] (wM ad cs M) (fun M1 => ∃ N1, Rep M1 N1 ∧ Sm M M1 ∧ N1 z = ((Int.gcd (N z) (N x) : Nat) : Int) ∧ ∀ j, j ≠ z → j ≠ a → j ≠ b → N1 j = N j) (fun _ => none) (fun M1 => wM ad cs M1) := by
  refine Ct.introV (by decide) (Nat.le_of_ble_eq_true rfl) (fun _ => rfl) ?_
  intro p e s m below meth c A args Q H locs X hnm hw kr ls hl
  have X : CX D (tyL cs) R_M b_M_common 5 p m c s args := X
  have hl : lv_has ls 5 [(0, .ref (ad 0)), (1, .int (iI ((z : Nat) : Int))), (2, .int (iI ((x : Nat) : Int))), (3, .int (iI ((a : Nat) : Int))), (4, .int (iI ((b : Nat) : Int)))] := hl
  refine sy_aload_n X d_M_common_0 hl 0 rfl ?_
  refine sy_iload_n X d_M_common_1 hl 3 rfl ?_
  refine sy_iload_n X d_M_common_2 hl 1 rfl ?_
  refine call_Vv (Xs := []) (b := ad 0) (As := [.int (iI ((a : Nat) : Int)), .int (iI ((z : Nat) : Int))]) (rest := []) X lk_M_78 (c_M_copy l D cs ad M N a z ha hz hR) ⟨by decide, by decide⟩ rcv_M hw rfl hl.1 (Nat.le_of_ble_eq_true rfl) d_M_common_3 rfl rfl ⟨Nat.zero_le _, Nat.zero_le _⟩ (fun A1 H locs p1 hw => ?_)
  obtain ⟨B1, eB1⟩ : ∃ g, g = up1 N a (N z) := ⟨_, rfl⟩
  rw [← eB1] at p1
  refine sy_aload_n X d_M_common_6 hl 0 rfl ?_
  refine sy_iload X d_M_common_7 hl 4 rfl ?_
  refine sy_iload_n X d_M_common_9 hl 2 rfl ?_
  refine call_Vv (Xs := []) (b := ad 0) (As := [.int (iI ((b : Nat) : Int)), .int (iI ((x : Nat) : Int))]) (rest := []) X lk_M_78 (c_M_copy l D cs ad A1 B1 b x hb hx p1.1) ⟨by decide, by decide⟩ rcv_M hw rfl hl.1 (Nat.le_of_ble_eq_true rfl) d_M_common_10 rfl rfl ⟨Nat.zero_le _, Nat.zero_le _⟩ (fun A2 H locs p2 hw => ?_)
  obtain ⟨B2, eB2⟩ : ∃ g, g = up1 B1 b (B1 x) := ⟨_, rfl⟩
  rw [← eB2] at p2
  refine sy_aload_n X d_M_common_13 hl 0 rfl ?_
  refine m_get X hw 2 (by decide) rfl (tt_of k511 rfl) d_M_common_14 ?_
  refine sy_iload_n X d_M_common_17 hl 3 rfl ?_
  refine sy_aload_n X d_M_common_18 hl 0 rfl ?_
  refine m_get X hw 2 (by decide) rfl (tt_of k511 rfl) d_M_common_19 ?_
  refine sy_iload_n X d_M_common_22 hl 3 rfl ?_
  refine m_ald X hw 3 a (by decide) (by omega) (by simp only [szM]; omega) (A2 3 a) rfl d_M_common_23 ?_
  refine sy_aload_n X d_M_common_24 hl 0 rfl ?_
  refine m_get X hw 2 (by decide) rfl (tt_of k511 rfl) d_M_common_25 ?_
  refine sy_iload_n X d_M_common_28 hl 3 rfl ?_
  refine m_ald X hw 3 a (by decide) (by omega) (by simp only [szM]; omega) (A2 3 a) rfl d_M_common_29 ?_
  refine sy_imul X d_M_common_30 ?_
  refine m_ast X hw 3 a (by decide) (by omega) (by simp only [szM]; omega) d_M_common_31 (fun H locs hw => ?_)
  have s3 := Rep.sq p2.1 ha
  obtain ⟨A3, eA3⟩ : ∃ g, g = up2 A2 3 a (A2 3 a * A2 3 a) := ⟨_, rfl⟩
  rw [← eA3] at s3 hw
  obtain ⟨B3, eB3⟩ : ∃ g, g = up1 B2 a ((B2 a).natAbs : Int) := ⟨_, rfl⟩
  rw [← eB3] at s3
  refine sy_aload_n X d_M_common_32 hl 0 rfl ?_
  refine m_get X hw 2 (by decide) rfl (tt_of k511 rfl) d_M_common_33 ?_
  refine sy_iload X d_M_common_36 hl 4 rfl ?_
  refine sy_aload_n X d_M_common_38 hl 0 rfl ?_
  refine m_get X hw 2 (by decide) rfl (tt_of k511 rfl) d_M_common_39 ?_
  refine sy_iload X d_M_common_42 hl 4 rfl ?_
  refine m_ald X hw 3 b (by decide) (by omega) (by simp only [szM]; omega) (A3 3 b) rfl d_M_common_44 ?_
  refine sy_aload_n X d_M_common_45 hl 0 rfl ?_
  refine m_get X hw 2 (by decide) rfl (tt_of k511 rfl) d_M_common_46 ?_
  refine sy_iload X d_M_common_49 hl 4 rfl ?_
  refine m_ald X hw 3 b (by decide) (by omega) (by simp only [szM]; omega) (A3 3 b) rfl d_M_common_51 ?_
  refine sy_imul X d_M_common_52 ?_
  refine m_ast X hw 3 b (by decide) (by omega) (by simp only [szM]; omega) d_M_common_53 (fun H locs hw => ?_)
  have s4 := Rep.sq s3 hb
  obtain ⟨A4, eA4⟩ : ∃ g, g = up2 A3 3 b (A3 3 b * A3 3 b) := ⟨_, rfl⟩
  rw [← eA4] at s4 hw
  obtain ⟨B4, eB4⟩ : ∃ g, g = up1 B3 b ((B3 b).natAbs : Int) := ⟨_, rfl⟩
  rw [← eB4] at s4
  have v1 : B2 a = N z := by rw [eB2, up1_n _ hab, eB1, up1_s]
  have v2 : B2 b = N x := by rw [eB2, up1_s, eB1, up1_n _ hxa]
  have v3 : B4 a = ((N z).natAbs : Int) := by rw [eB4, up1_n _ hab, eB3, up1_s, v1]
  have v4 : B4 b = ((N x).natAbs : Int) := by rw [eB4, up1_s, eB3, up1_n _ (Ne.symm hab), v2]
  have hNN : 0 ≤ B4 a ∧ 0 ≤ B4 b := by rw [v3, v4]; omega
  have hGG : Int.gcd (B4 a) (B4 b) = Int.gcd (N z) (N x) := by rw [v3, v4]; simp [Int.gcd]
  have hOO : ∀ j, j ≠ z → j ≠ a → j ≠ b → B4 j = N j := fun j h1 h2 h3 => by rw [eB4, up1_n _ h3, eB3, up1_n _ h2, eB2, up1_n _ h3, eB1, up1_n _ h2]
  have hSm : Sm M A4 := (p1.2.1.tr p2.2.1).tr (by rw [eA4, eA3]; exact ⟨rfl, rfl, rfl, rfl⟩)
  have key : ∀ (n : Nat) (M1 : Nat → Nat → Int) (N1 : Nat → Int) (H : Heap) (locs : List Loc) (ls : Array Slot), Rep M1 N1 → Sm M M1 → 0 ≤ N1 a ∧ 0 ≤ N1 b → Int.gcd (N1 a) (N1 b) = Int.gcd (N z) (N x) → (∀ j, j ≠ z → j ≠ a → j ≠ b → N1 j = N j) → N1 b < (n : Int) → HW D A s.heap (wM ad cs M1) H locs → lv_has ls 5 [(0, .ref (ad 0)), (1, .int (iI ((z : Nat) : Int))), (2, .int (iI ((x : Nat) : Int))), (3, .int (iI ((a : Nat) : Int))), (4, .int (iI ((b : Nat) : Int)))] → W p l e (rm 5) s m args below meth c H locs 0 0 Q (F0 m 54 ls []) := by
    intro n
    induction n with
    | zero =>
      intro M1 N1 H locs ls r1 r2 r3 r4 r5 r6 hw hl
      exfalso; omega
    | succ n ih_key =>
      intro M1 N1 H locs ls r1 r2 r3 r4 r5 r6 hw hl
      obtain ⟨ub, hub, hub1, -, -, hltb, htb, -⟩ := (r1 b hb).dig
      refine sy_aload_n X d_M_common_54 hl 0 rfl ?_
      refine m_get X hw 1 (by decide) rfl (tt_of k510 rfl) d_M_common_55 ?_
      refine sy_iload X d_M_common_58 hl 4 rfl ?_
      refine m_ald X hw 2 b (by decide) (by omega) (by simp only [szM]; omega) (ub : Int) hub d_M_common_60 ?_
      refine sy_if_le (tgt := 115) X d_M_common_61 (by decide) ⟨by omega, by omega⟩ (fun c1 => ?_) (fun c1 => ?_)
      · refine sy_aload_n X d_M_common_115 hl 0 rfl ?_
        refine sy_iload_n X d_M_common_116 hl 1 rfl ?_
        refine sy_iload_n X d_M_common_117 hl 3 rfl ?_
        refine call_Vv (Xs := []) (b := ad 0) (As := [.int (iI ((z : Nat) : Int)), .int (iI ((a : Nat) : Int))]) (rest := []) X lk_M_78 (c_M_copy l D cs ad M1 N1 z a hz ha r1) ⟨by decide, by decide⟩ rcv_M hw rfl hl.1 (Nat.le_of_ble_eq_true rfl) d_M_common_118 rfl rfl ⟨Nat.zero_le _, Nat.zero_le _⟩ (fun M2 H locs q1 hw => ?_)
        obtain ⟨N2, eN2⟩ : ∃ g, g = up1 N1 z (N1 a) := ⟨_, rfl⟩
        rw [← eN2] at q1
        have hb0 : N1 b = 0 := by
          have : ub = 0 := by omega
          subst this; simp at hltb; omega
        have hN2z : N2 z = ((Int.gcd (N z) (N x) : Nat) : Int) := by
          rw [eN2, up1_s, ← r4, hb0]; simp [Int.gcd]; omega
        exact kr _ _ _ _ _ d_M_common_121 hw ⟨N2, q1.1, r2.tr q1.2.1, hN2z, fun j h1 h2 h3 => by rw [eN2, up1_n _ h1]; exact r5 j h1 h2 h3⟩
      · have hub0 : 1 ≤ ub := by omega
        have hb1 : 1 ≤ N1 b := by rcases htb with h | h; omega; have := B_pos (ub - 1); omega
        refine sy_aload_n X d_M_common_64 hl 0 rfl ?_
        refine sy_iload_n X d_M_common_65 hl 1 rfl ?_
        refine sy_iload X d_M_common_66 hl 4 rfl ?_
        refine call_Vv (Xs := []) (b := ad 0) (As := [.int (iI ((z : Nat) : Int)), .int (iI ((b : Nat) : Int))]) (rest := []) X lk_M_78 (c_M_copy l D cs ad M1 N1 z b hz hb r1) ⟨by decide, by decide⟩ rcv_M hw rfl hl.1 (Nat.le_of_ble_eq_true rfl) d_M_common_68 rfl rfl ⟨Nat.zero_le _, Nat.zero_le _⟩ (fun M2 H locs q1 hw => ?_)
        obtain ⟨N2, eN2⟩ : ∃ g, g = up1 N1 z (N1 b) := ⟨_, rfl⟩
        rw [← eN2] at q1
        have n2a : N2 a = N1 a := by rw [eN2, up1_n _ (Ne.symm hza)]
        have n2b : N2 b = N1 b := by rw [eN2, up1_n _ (Ne.symm hzb)]
        have n2z : N2 z = N1 b := by rw [eN2, up1_s]
        obtain ⟨va, hva, hva1, -, -, hlta, hta, -⟩ := (q1.1 a ha).dig
        obtain ⟨vb, hvb, hvb1, -, -, hltb2, htb2, -⟩ := (q1.1 b hb).dig
        rw [n2a] at hlta hta
        rw [n2b] at hltb2 htb2
        refine sy_aload_n X d_M_common_71 hl 0 rfl ?_
        refine m_get X hw 1 (by decide) rfl (tt_of k510 rfl) d_M_common_72 ?_
        refine sy_iload_n X d_M_common_75 hl 3 rfl ?_
        refine m_ald X hw 2 a (by decide) (by omega) (by simp only [szM]; omega) (va : Int) hva d_M_common_76 ?_
        refine sy_aload_n X d_M_common_77 hl 0 rfl ?_
        refine m_get X hw 1 (by decide) rfl (tt_of k510 rfl) d_M_common_78 ?_
        refine sy_iload X d_M_common_81 hl 4 rfl ?_
        refine m_ald X hw 2 b (by decide) (by omega) (by simp only [szM]; omega) (vb : Int) hvb d_M_common_83 ?_
        refine sy_icmp_ge (tgt := 97) X d_M_common_84 (by decide) ⟨by omega, by omega⟩ ⟨by omega, by omega⟩ (fun c2 => ?_) (fun c2 => ?_)
        · refine sy_aload_n X d_M_common_97 hl 0 rfl ?_
          refine sy_iload X d_M_common_98 hl 4 rfl ?_
          refine sy_iload_n X d_M_common_100 hl 3 rfl ?_
          refine sy_iload X d_M_common_101 hl 4 rfl ?_
          refine call_Vv (Xs := []) (b := ad 0) (As := [.int (iI ((b : Nat) : Int)), .int (iI ((a : Nat) : Int)), .int (iI ((b : Nat) : Int))]) (rest := []) X lk_M_81 (c_M_remainder l D cs ad M2 N2 b a b hb ha hb q1.1 (by rw [n2b]; omega) (by omega)) ⟨by decide, by decide⟩ rcv_M hw rfl hl.1 (Nat.le_of_ble_eq_true rfl) d_M_common_103 rfl rfl ⟨Nat.zero_le _, Nat.zero_le _⟩ (fun M3 H locs q2 hw => ?_)
          obtain ⟨N3, eN3⟩ : ∃ g, g = up1 N2 b (((N2 a).natAbs : Int) % ((N2 b).natAbs : Int)) := ⟨_, rfl⟩
          rw [← eN3] at q2
          have n3z : N3 z = N1 b := by rw [eN3, up1_n _ hzb, n2z]
          have n3b : N3 b = ((N1 a).natAbs : Int) % ((N1 b).natAbs : Int) := by rw [eN3, up1_s, n2a, n2b]
          have hg3 : Int.gcd (N1 b) (N3 b) = Int.gcd (N z) (N x) := by rw [n3b, gcd_mod _ _ r3.1 r3.2]; exact r4
          have hd3 : 0 ≤ N3 b ∧ N3 b < N1 b := by rw [n3b]; have h1 := Int.emod_nonneg ((N1 a).natAbs : Int) (show ((N1 b).natAbs : Int) ≠ 0 by omega); have h2 := Int.emod_lt_of_pos ((N1 a).natAbs : Int) (show (0 : Int) < ((N1 b).natAbs : Int) by omega); omega
          refine sy_aload_n X d_M_common_106 hl 0 rfl ?_
          refine sy_iload_n X d_M_common_107 hl 3 rfl ?_
          refine sy_iload_n X d_M_common_108 hl 1 rfl ?_
          refine call_Vv (Xs := []) (b := ad 0) (As := [.int (iI ((a : Nat) : Int)), .int (iI ((z : Nat) : Int))]) (rest := []) X lk_M_78 (c_M_copy l D cs ad M3 N3 a z ha hz q2.1) ⟨by decide, by decide⟩ rcv_M hw rfl hl.1 (Nat.le_of_ble_eq_true rfl) d_M_common_109 rfl rfl ⟨Nat.zero_le _, Nat.zero_le _⟩ (fun M4 H locs q3 hw => ?_)
          obtain ⟨N4, eN4⟩ : ∃ g, g = up1 N3 a (N3 z) := ⟨_, rfl⟩
          rw [← eN4] at q3
          have n4a : N4 a = N1 b := by rw [eN4, up1_s, n3z]
          have n4b : N4 b = N3 b := by rw [eN4, up1_n _ (Ne.symm hab)]
          have hS4 : Sm M M4 := (r2.tr q1.2.1).tr (q2.2.tr q3.2.1)
          have h34 : 0 ≤ N4 a ∧ 0 ≤ N4 b := by rw [n4a, n4b]; omega
          have h44 : Int.gcd (N4 a) (N4 b) = Int.gcd (N z) (N x) := by rw [n4a, n4b]; exact hg3
          have h54 : ∀ j, j ≠ z → j ≠ a → j ≠ b → N4 j = N j := fun j h1 h2 h3 => by rw [eN4, up1_n _ h2, eN3, up1_n _ h3, eN2, up1_n _ h1]; exact r5 j h1 h2 h3
          have h64 : N4 b < (n : Int) := by rw [n4b]; omega
          refine sy_goto (tgt := 54) X d_M_common_112 (by decide) ?_
          exact ih_key M4 N4 H locs ls q3.1 hS4 h34 h44 h54 h64 hw (lv_sub hl [0, 1, 2, 3, 4] rfl)
        · refine sy_aload_n X d_M_common_87 hl 0 rfl ?_
          refine sy_iload X d_M_common_88 hl 4 rfl ?_
          refine sy_iload_n X d_M_common_90 hl 3 rfl ?_
          refine call_Vv (Xs := []) (b := ad 0) (As := [.int (iI ((b : Nat) : Int)), .int (iI ((a : Nat) : Int))]) (rest := []) X lk_M_78 (c_M_copy l D cs ad M2 N2 b a hb ha q1.1) ⟨by decide, by decide⟩ rcv_M hw rfl hl.1 (Nat.le_of_ble_eq_true rfl) d_M_common_91 rfl rfl ⟨Nat.zero_le _, Nat.zero_le _⟩ (fun M3 H locs q2 hw => ?_)
          obtain ⟨N3, eN3⟩ : ∃ g, g = up1 N2 b (N2 a) := ⟨_, rfl⟩
          rw [← eN3] at q2
          have n3z : N3 z = N1 b := by rw [eN3, up1_n _ hzb, n2z]
          have n3b : N3 b = N1 a := by rw [eN3, up1_s, n2a]
          have hdec : N1 a < N1 b := by
            have h1 := B_le (show va ≤ vb - 1 by omega)
            rcases htb2 with h | h <;> omega
          have hg3 : Int.gcd (N1 b) (N3 b) = Int.gcd (N z) (N x) := by rw [n3b, Int.gcd_comm]; exact r4
          have hd3 : 0 ≤ N3 b ∧ N3 b < N1 b := by rw [n3b]; omega
          have q2 := (⟨q2.1, q2.2.1⟩ : Rep M3 N3 ∧ Sm M2 M3)
          refine sy_goto (tgt := 106) X d_M_common_94 (by decide) ?_
          refine sy_aload_n X d_M_common_106 hl 0 rfl ?_
          refine sy_iload_n X d_M_common_107 hl 3 rfl ?_
          refine sy_iload_n X d_M_common_108 hl 1 rfl ?_
          refine call_Vv (Xs := []) (b := ad 0) (As := [.int (iI ((a : Nat) : Int)), .int (iI ((z : Nat) : Int))]) (rest := []) X lk_M_78 (c_M_copy l D cs ad M3 N3 a z ha hz q2.1) ⟨by decide, by decide⟩ rcv_M hw rfl hl.1 (Nat.le_of_ble_eq_true rfl) d_M_common_109 rfl rfl ⟨Nat.zero_le _, Nat.zero_le _⟩ (fun M4 H locs q3 hw => ?_)
          obtain ⟨N4, eN4⟩ : ∃ g, g = up1 N3 a (N3 z) := ⟨_, rfl⟩
          rw [← eN4] at q3
          have n4a : N4 a = N1 b := by rw [eN4, up1_s, n3z]
          have n4b : N4 b = N3 b := by rw [eN4, up1_n _ (Ne.symm hab)]
          have hS4 : Sm M M4 := (r2.tr q1.2.1).tr (q2.2.tr q3.2.1)
          have h34 : 0 ≤ N4 a ∧ 0 ≤ N4 b := by rw [n4a, n4b]; omega
          have h44 : Int.gcd (N4 a) (N4 b) = Int.gcd (N z) (N x) := by rw [n4a, n4b]; exact hg3
          have h54 : ∀ j, j ≠ z → j ≠ a → j ≠ b → N4 j = N j := fun j h1 h2 h3 => by rw [eN4, up1_n _ h2, eN3, up1_n _ h3, eN2, up1_n _ h1]; exact r5 j h1 h2 h3
          have h64 : N4 b < (n : Int) := by rw [n4b]; omega
          refine sy_goto (tgt := 54) X d_M_common_112 (by decide) ?_
          exact ih_key M4 N4 H locs ls q3.1 hS4 h34 h44 h54 h64 hw (lv_sub hl [0, 1, 2, 3, 4] rfl)
  exact key ((B4 b).toNat + 1) A4 B4 H locs ls s4 (hSm) hNN hGG hOO (by omega) hw (lv_sub hl [0, 1, 2, 3, 4] rfl)
