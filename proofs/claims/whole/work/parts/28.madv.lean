/-- the six numbers of the next time, before its observations -/
def advV (u m k : Nat → Int) : Nat → Int := fun i => match i with
  | 0 => u 0 * m 0 + u 1 * m 1
  | 1 => u 0 * m 2 + u 1 * m 3
  | 2 => (u 2 * m 0 + u 3 * m 1) * m 0 + (u 3 * m 0 + u 4 * m 1) * m 1 + u 5 * k 0
  | 3 => (u 2 * m 0 + u 3 * m 1) * m 2 + (u 3 * m 0 + u 4 * m 1) * m 3 + u 5 * k 1
  | 4 => (u 2 * m 2 + u 3 * m 3) * m 2 + (u 3 * m 2 + u 4 * m 3) * m 3 + u 5 * k 2
  | _ => u 5
def Advanced (M M1 : Nat → Nat → Int) (N : Nat → Int) (t : Nat) : Prop := ∃ N1, Rep M1 N1 ∧ (M1 0 0 = (t : Int) + 1 ∧ M1 0 1 = M 0 1 ∧ M1 0 2 = 0) ∧ (M1 6 = M 6 ∧ M1 7 = M 7 ∧ M1 8 = blk (M 8) (4 * t) 4 (M 6)) ∧
  (∀ i, i < 6 → N1 (6 * t + 6 + i) = advV (fun i => N (24 + 6 * t + i)) (M 6) (M 7) i) ∧ (∀ i, i < 6 → N1 (24 + 6 * (t + 1) + i) = advV (fun i => N (24 + 6 * t + i)) (M 6) (M 7) i) ∧
  ∀ j, j < 96 → (j < 6 * t + 6 ∨ 6 * t + 12 ≤ j) → (j < 24 + 6 * (t + 1) ∨ 24 + 6 * (t + 1) + 6 ≤ j) → N1 j = N j
set_option maxRecDepth 100000 in
set_option maxHeartbeats 4000000 in
theorem c_M_advance (l : Launch) (D : va_G) (cs : Nat → ClassId) (ad : Nat → Nat) (M : Nat → Nat → Int) (N : Nat → Int) (t : Nat) (hR : Rep M N) (ht : M 0 0 = (t : Int)) (ht3 : t ≤ 3) (hm : ∀ i, i < 4 → -3 ≤ M 6 i ∧ M 6 i ≤ 3) (hk : ∀ i, i < 3 → -99 ≤ M 7 i ∧ M 7 i ≤ 99) (hb : ∀ i, i < 6 → Bn (N (24 + 6 * t + i)) 128) : Ct (S := Int × (Nat → Nat → Int)) l D (tyL cs) y_M_advance b_M_advance 5 (some .int) (rm 6) [.ref (ad 0)] (wM ad cs M) (fun u => (t = 3 ∧ u = (-5, M)) ∨ (t ≠ 3 ∧ u.1 = (t : Int) + 1 ∧ Advanced M u.2 N t)) (fun u => some (.int (iI u.1))) (fun u => wM ad cs u.2) := by
  refine Ct.introI (by decide) (Nat.le_of_ble_eq_true rfl) ?_
  intro p e s m below meth c A args Q H locs X hnm hw kr ls hl
  have X : CX D (tyL cs) R_M b_M_advance 5 p m c s args := X
  have hl : lv_has ls 5 [(0, .ref (ad 0))] := hl
  obtain ⟨f, hf⟩ : ∃ f, f = 24 + 6 * t := ⟨_, rfl⟩
  obtain ⟨pp, hpp⟩ : ∃ f, f = 6 * t + 6 := ⟨_, rfl⟩
  simp only [Advanced] at kr
  rw [← hf] at hb
  simp only [← hf, ← hpp] at kr
  obtain ⟨u0, hu0⟩ : ∃ g, N f = g := ⟨_, rfl⟩
  have bu0 : Bn u0 128 := by rw [← hu0]; exact hb 0 (by decide)
  obtain ⟨u1, hu1⟩ : ∃ g, N (f + 1) = g := ⟨_, rfl⟩
  have bu1 : Bn u1 128 := by rw [← hu1]; exact hb 1 (by decide)
  obtain ⟨u2, hu2⟩ : ∃ g, N (f + 2) = g := ⟨_, rfl⟩
  have bu2 : Bn u2 128 := by rw [← hu2]; exact hb 2 (by decide)
  obtain ⟨u3, hu3⟩ : ∃ g, N (f + 3) = g := ⟨_, rfl⟩
  have bu3 : Bn u3 128 := by rw [← hu3]; exact hb 3 (by decide)
  obtain ⟨u4, hu4⟩ : ∃ g, N (f + 4) = g := ⟨_, rfl⟩
  have bu4 : Bn u4 128 := by rw [← hu4]; exact hb 4 (by decide)
  obtain ⟨u5, hu5⟩ : ∃ g, N (f + 5) = g := ⟨_, rfl⟩
  have bu5 : Bn u5 128 := by rw [← hu5]; exact hb 5 (by decide)
  obtain ⟨m0, hm0⟩ : ∃ g, M 6 0 = g := ⟨_, rfl⟩
  have km0 : -3 ≤ m0 ∧ m0 ≤ 3 := by rw [← hm0]; exact hm 0 (by decide)
  have bm0 : Bn m0 2 := Bn.of (k := 3) km0 (by decide)
  obtain ⟨m1, hm1⟩ : ∃ g, M 6 1 = g := ⟨_, rfl⟩
  have km1 : -3 ≤ m1 ∧ m1 ≤ 3 := by rw [← hm1]; exact hm 1 (by decide)
  have bm1 : Bn m1 2 := Bn.of (k := 3) km1 (by decide)
  obtain ⟨m2, hm2⟩ : ∃ g, M 6 2 = g := ⟨_, rfl⟩
  have km2 : -3 ≤ m2 ∧ m2 ≤ 3 := by rw [← hm2]; exact hm 2 (by decide)
  have bm2 : Bn m2 2 := Bn.of (k := 3) km2 (by decide)
  obtain ⟨m3, hm3⟩ : ∃ g, M 6 3 = g := ⟨_, rfl⟩
  have km3 : -3 ≤ m3 ∧ m3 ≤ 3 := by rw [← hm3]; exact hm 3 (by decide)
  have bm3 : Bn m3 2 := Bn.of (k := 3) km3 (by decide)
  obtain ⟨k0, hk0⟩ : ∃ g, M 7 0 = g := ⟨_, rfl⟩
  have kk0 : -99 ≤ k0 ∧ k0 ≤ 99 := by rw [← hk0]; exact hk 0 (by decide)
  have bk0 : Bn k0 7 := Bn.of (k := 99) kk0 (by decide)
  obtain ⟨k1, hk1⟩ : ∃ g, M 7 1 = g := ⟨_, rfl⟩
  have kk1 : -99 ≤ k1 ∧ k1 ≤ 99 := by rw [← hk1]; exact hk 1 (by decide)
  have bk1 : Bn k1 7 := Bn.of (k := 99) kk1 (by decide)
  obtain ⟨k2, hk2⟩ : ∃ g, M 7 2 = g := ⟨_, rfl⟩
  have kk2 : -99 ≤ k2 ∧ k2 ≤ 99 := by rw [← hk2]; exact hk 2 (by decide)
  have bk2 : Bn k2 7 := Bn.of (k := 99) kk2 (by decide)
  refine sy_aload_n X d_M_advance_0 hl 0 rfl ?_
  refine m_get (v := .int (iI (t : Int))) X hw 5 (by decide) (by show some (Value.int (iI (M 0 0))) = _; rw [show (M) 0 0 = M 0 0 from rfl, ht]) (tt_of k514 rfl) d_M_advance_1 ?_
  refine sy_iconst X d_M_advance_4 ?_
  refine sy_icmp_ne (tgt := 11) X d_M_advance_5 (by decide) ⟨by omega, by omega⟩ ⟨by omega, by omega⟩ (fun c1 => ?_) (fun c1 => ?_)
  · refine sy_bipush X d_M_advance_11 (by decide) ?_
    refine sy_bipush X d_M_advance_13 (by decide) ?_
    refine sy_aload_n X d_M_advance_15 hl 0 rfl ?_
    refine m_get (v := .int (iI (t : Int))) X hw 5 (by decide) (by show some (Value.int (iI (M 0 0))) = _; rw [show (M) 0 0 = M 0 0 from rfl, ht]) (tt_of k514 rfl) d_M_advance_16 ?_
    refine sy_imul X d_M_advance_19 ?_
    refine sy_iadd X d_M_advance_20 ?_
    rw [show ((24 : Int) + 6 * (t : Int)) = ((f : Nat) : Int) by omega]
    refine sy_istore_n (lv1 := [(1, .int (iI ((f : Nat) : Int))), (0, .ref (ad 0))]) X d_M_advance_21 hl rfl (by decide) rfl (fun ls hl => ?_)
    have hk0' := hk0
    have hk1' := hk1
    have hk2' := hk2
    refine sy_iconst X d_M_advance_22 ?_
    refine sy_bipush X d_M_advance_23 (by decide) ?_
    refine sy_aload_n X d_M_advance_25 hl 1 rfl ?_
    refine m_get (v := .int (iI (t : Int))) X hw 5 (by decide) (by show some (Value.int (iI (M 0 0))) = _; rw [show (M) 0 0 = M 0 0 from rfl, ht]) (tt_of k514 rfl) d_M_advance_26 ?_
    refine sy_imul X d_M_advance_29 ?_
    refine sy_iadd X d_M_advance_30 ?_
    refine sy_bipush X d_M_advance_31 (by decide) ?_
    refine sy_iadd X d_M_advance_33 ?_
    rw [show ((0 : Int) + 6 * (t : Int) + 6) = ((pp : Nat) : Int) by omega]
    refine sy_istore_n (lv1 := [(2, .int (iI ((pp : Nat) : Int))), (1, .int (iI ((f : Nat) : Int))), (0, .ref (ad 0))]) X d_M_advance_34 hl rfl (by decide) rfl (fun ls hl => ?_)
    refine sy_bipush X d_M_advance_35 (by decide) ?_
    refine sy_istore_n (lv1 := [(3, .int (iI 100)), (2, .int (iI ((pp : Nat) : Int))), (1, .int (iI ((f : Nat) : Int))), (0, .ref (ad 0))]) X d_M_advance_37 hl rfl (by decide) rfl (fun ls hl => ?_)
    refine sy_iconst X d_M_advance_38 ?_
    refine sy_istore (lv1 := [(4, .int (iI 0)), (3, .int (iI 100)), (2, .int (iI ((pp : Nat) : Int))), (1, .int (iI ((f : Nat) : Int))), (0, .ref (ad 0))]) X d_M_advance_39 hl (by decide) rfl (fun ls hl => ?_)
    refine sy_iload X d_M_advance_41 hl 0 rfl ?_
    refine sy_iconst X d_M_advance_43 ?_
    refine sy_icmp_ge (tgt := 74) X d_M_advance_44 (by decide) ⟨by decide, by decide⟩ ⟨by decide, by decide⟩ (fun c2 => ?_) (fun c2 => ?_)
    · exact absurd c2 (by decide)
    · refine sy_aload_n X d_M_advance_47 hl 4 rfl ?_
      refine m_get X hw 10 (by decide) rfl (tt_of k519 rfl) d_M_advance_48 ?_
      refine sy_iconst X d_M_advance_51 ?_
      refine sy_aload_n X d_M_advance_52 hl 4 rfl ?_
      refine m_get (v := .int (iI (t : Int))) X hw 5 (by decide) (by show some (Value.int (iI (M 0 0))) = _; rw [show (M) 0 0 = M 0 0 from rfl, ht]) (tt_of k514 rfl) d_M_advance_53 ?_
      refine sy_imul X d_M_advance_56 ?_
      refine sy_iload X d_M_advance_57 hl 0 rfl ?_
      refine sy_iadd X d_M_advance_59 ?_
      refine sy_aload_n X d_M_advance_60 hl 4 rfl ?_
      refine m_get X hw 8 (by decide) rfl (tt_of k517 rfl) d_M_advance_61 ?_
      refine sy_iload X d_M_advance_64 hl 0 rfl ?_
      refine m_ald X hw 6 0 (by decide) (by omega) (by simp only [szM]; omega) m0 hm0 d_M_advance_66 ?_
      refine m_ast X hw 8 ((4 * t) + 0) (by decide) (by omega) (by simp only [szM]; omega) d_M_advance_67 (fun H locs hw => ?_)
      refine sy_iinc (lv1 := [(4, .int (iI 1)), (3, .int (iI 100)), (2, .int (iI ((pp : Nat) : Int))), (1, .int (iI ((f : Nat) : Int))), (0, .ref (ad 0))]) X d_M_advance_68 hl 0 rfl (by omega) (by decide) rfl (fun ls hl => ?_)
      refine sy_goto (tgt := 41) X d_M_advance_71 (by decide) ?_
      refine sy_iload X d_M_advance_41 hl 0 rfl ?_
      refine sy_iconst X d_M_advance_43 ?_
      refine sy_icmp_ge (tgt := 74) X d_M_advance_44 (by decide) ⟨by decide, by decide⟩ ⟨by decide, by decide⟩ (fun c3 => ?_) (fun c3 => ?_)
      · exact absurd c3 (by decide)
      · refine sy_aload_n X d_M_advance_47 hl 4 rfl ?_
        refine m_get X hw 10 (by decide) rfl (tt_of k519 rfl) d_M_advance_48 ?_
        refine sy_iconst X d_M_advance_51 ?_
        refine sy_aload_n X d_M_advance_52 hl 4 rfl ?_
        refine m_get (v := .int (iI (t : Int))) X hw 5 (by decide) (by show some (Value.int (iI ((up2 M 8 ((4 * t) + 0) m0) 0 0))) = _; rw [show (up2 M 8 ((4 * t) + 0) m0) 0 0 = M 0 0 from rfl, ht]) (tt_of k514 rfl) d_M_advance_53 ?_
        refine sy_imul X d_M_advance_56 ?_
        refine sy_iload X d_M_advance_57 hl 0 rfl ?_
        refine sy_iadd X d_M_advance_59 ?_
        refine sy_aload_n X d_M_advance_60 hl 4 rfl ?_
        refine m_get X hw 8 (by decide) rfl (tt_of k517 rfl) d_M_advance_61 ?_
        refine sy_iload X d_M_advance_64 hl 0 rfl ?_
        refine m_ald X hw 6 1 (by decide) (by omega) (by simp only [szM]; omega) m1 hm1 d_M_advance_66 ?_
        refine m_ast X hw 8 ((4 * t) + 1) (by decide) (by omega) (by simp only [szM]; omega) d_M_advance_67 (fun H locs hw => ?_)
        refine sy_iinc (lv1 := [(4, .int (iI 2)), (3, .int (iI 100)), (2, .int (iI ((pp : Nat) : Int))), (1, .int (iI ((f : Nat) : Int))), (0, .ref (ad 0))]) X d_M_advance_68 hl 0 rfl (by omega) (by decide) rfl (fun ls hl => ?_)
        refine sy_goto (tgt := 41) X d_M_advance_71 (by decide) ?_
        refine sy_iload X d_M_advance_41 hl 0 rfl ?_
        refine sy_iconst X d_M_advance_43 ?_
        refine sy_icmp_ge (tgt := 74) X d_M_advance_44 (by decide) ⟨by decide, by decide⟩ ⟨by decide, by decide⟩ (fun c4 => ?_) (fun c4 => ?_)
        · exact absurd c4 (by decide)
        · refine sy_aload_n X d_M_advance_47 hl 4 rfl ?_
          refine m_get X hw 10 (by decide) rfl (tt_of k519 rfl) d_M_advance_48 ?_
          refine sy_iconst X d_M_advance_51 ?_
          refine sy_aload_n X d_M_advance_52 hl 4 rfl ?_
          refine m_get (v := .int (iI (t : Int))) X hw 5 (by decide) (by show some (Value.int (iI ((up2 (up2 M 8 ((4 * t) + 0) m0) 8 ((4 * t) + 1) m1) 0 0))) = _; rw [show (up2 (up2 M 8 ((4 * t) + 0) m0) 8 ((4 * t) + 1) m1) 0 0 = M 0 0 from rfl, ht]) (tt_of k514 rfl) d_M_advance_53 ?_
          refine sy_imul X d_M_advance_56 ?_
          refine sy_iload X d_M_advance_57 hl 0 rfl ?_
          refine sy_iadd X d_M_advance_59 ?_
          refine sy_aload_n X d_M_advance_60 hl 4 rfl ?_
          refine m_get X hw 8 (by decide) rfl (tt_of k517 rfl) d_M_advance_61 ?_
          refine sy_iload X d_M_advance_64 hl 0 rfl ?_
          refine m_ald X hw 6 2 (by decide) (by omega) (by simp only [szM]; omega) m2 hm2 d_M_advance_66 ?_
          refine m_ast X hw 8 ((4 * t) + 2) (by decide) (by omega) (by simp only [szM]; omega) d_M_advance_67 (fun H locs hw => ?_)
          refine sy_iinc (lv1 := [(4, .int (iI 3)), (3, .int (iI 100)), (2, .int (iI ((pp : Nat) : Int))), (1, .int (iI ((f : Nat) : Int))), (0, .ref (ad 0))]) X d_M_advance_68 hl 0 rfl (by omega) (by decide) rfl (fun ls hl => ?_)
          refine sy_goto (tgt := 41) X d_M_advance_71 (by decide) ?_
          refine sy_iload X d_M_advance_41 hl 0 rfl ?_
          refine sy_iconst X d_M_advance_43 ?_
          refine sy_icmp_ge (tgt := 74) X d_M_advance_44 (by decide) ⟨by decide, by decide⟩ ⟨by decide, by decide⟩ (fun c5 => ?_) (fun c5 => ?_)
          · exact absurd c5 (by decide)
          · refine sy_aload_n X d_M_advance_47 hl 4 rfl ?_
            refine m_get X hw 10 (by decide) rfl (tt_of k519 rfl) d_M_advance_48 ?_
            refine sy_iconst X d_M_advance_51 ?_
            refine sy_aload_n X d_M_advance_52 hl 4 rfl ?_
            refine m_get (v := .int (iI (t : Int))) X hw 5 (by decide) (by show some (Value.int (iI ((up2 (up2 (up2 M 8 ((4 * t) + 0) m0) 8 ((4 * t) + 1) m1) 8 ((4 * t) + 2) m2) 0 0))) = _; rw [show (up2 (up2 (up2 M 8 ((4 * t) + 0) m0) 8 ((4 * t) + 1) m1) 8 ((4 * t) + 2) m2) 0 0 = M 0 0 from rfl, ht]) (tt_of k514 rfl) d_M_advance_53 ?_
            refine sy_imul X d_M_advance_56 ?_
            refine sy_iload X d_M_advance_57 hl 0 rfl ?_
            refine sy_iadd X d_M_advance_59 ?_
            refine sy_aload_n X d_M_advance_60 hl 4 rfl ?_
            refine m_get X hw 8 (by decide) rfl (tt_of k517 rfl) d_M_advance_61 ?_
            refine sy_iload X d_M_advance_64 hl 0 rfl ?_
            refine m_ald X hw 6 3 (by decide) (by omega) (by simp only [szM]; omega) m3 hm3 d_M_advance_66 ?_
            refine m_ast X hw 8 ((4 * t) + 3) (by decide) (by omega) (by simp only [szM]; omega) d_M_advance_67 (fun H locs hw => ?_)
            refine sy_iinc (lv1 := [(4, .int (iI 4)), (3, .int (iI 100)), (2, .int (iI ((pp : Nat) : Int))), (1, .int (iI ((f : Nat) : Int))), (0, .ref (ad 0))]) X d_M_advance_68 hl 0 rfl (by omega) (by decide) rfl (fun ls hl => ?_)
            refine sy_goto (tgt := 41) X d_M_advance_71 (by decide) ?_
            refine sy_iload X d_M_advance_41 hl 0 rfl ?_
            refine sy_iconst X d_M_advance_43 ?_
            refine sy_icmp_ge (tgt := 74) X d_M_advance_44 (by decide) ⟨by decide, by decide⟩ ⟨by decide, by decide⟩ (fun c6 => ?_) (fun c6 => ?_)
            · have hm0' := hm0
              have hm1' := hm1
              have hm2' := hm2
              have hm3' := hm3
              obtain ⟨Mm, eMm⟩ : ∃ g, g = up2 (up2 (up2 (up2 M 8 ((4 * t) + 0) m0) 8 ((4 * t) + 1) m1) 8 ((4 * t) + 2) m2) 8 ((4 * t) + 3) m3 := ⟨_, rfl⟩
              rw [← eMm] at hw
              have hRm : Rep Mm N := by rw [eMm]; exact hR
              have hm0 : Mm 6 0 = m0 := by rw [eMm]; exact hm0
              have hm1 : Mm 6 1 = m1 := by rw [eMm]; exact hm1
              have hm2 : Mm 6 2 = m2 := by rw [eMm]; exact hm2
              have hm3 : Mm 6 3 = m3 := by rw [eMm]; exact hm3
              have hk0 : Mm 7 0 = k0 := by rw [eMm]; exact hk0
              have hk1 : Mm 7 1 = k1 := by rw [eMm]; exact hk1
              have hk2 : Mm 7 2 = k2 := by rw [eMm]; exact hk2
              have e08 : Mm 0 = M 0 ∧ Mm 6 = M 6 ∧ Mm 7 = M 7 ∧ Mm 8 = blk (M 8) (4 * t) 4 (M 6) := by
                refine ⟨by rw [eMm]; rfl, by rw [eMm]; rfl, by rw [eMm]; rfl, ?_⟩
                rw [eMm]; simp only [up2_a]
                funext j; simp only [up1, blk]
                by_cases h : 4 * t ≤ j ∧ j < 4 * t + 4
                · rw [if_pos h]
                  have : j = 4 * t ∨ j = 4 * t + 1 ∨ j = 4 * t + 2 ∨ j = 4 * t + 3 := by omega
                  rcases this with e | e | e | e <;> subst e <;> simp <;> (try omega) <;> (first | (rw [hm0']) | (rw [hm1']) | (rw [hm2']) | (rw [hm3']))
                · rw [if_neg h, if_neg (by omega), if_neg (by omega), if_neg (by omega), if_neg (by omega)]
              refine sy_aload_n X d_M_advance_74 hl 4 rfl ?_
              refine sy_iload_n X d_M_advance_75 hl 2 rfl ?_
              refine sy_iload_n X d_M_advance_76 hl 3 rfl ?_
              refine sy_aload_n X d_M_advance_77 hl 4 rfl ?_
              refine m_get X hw 8 (by decide) rfl (tt_of k517 rfl) d_M_advance_78 ?_
              refine sy_iconst X d_M_advance_81 ?_
              refine m_ald X hw 6 0 (by decide) (by omega) (by simp only [szM]; omega) m0 ((congrFun (Sm.rf Mm).2.1 0).trans hm0) d_M_advance_82 ?_
              refine sy_iload_n X d_M_advance_83 hl 3 rfl ?_
              refine sy_iconst X d_M_advance_84 ?_
              refine sy_iadd X d_M_advance_85 ?_
              refine sy_aload_n X d_M_advance_86 hl 4 rfl ?_
              refine m_get X hw 8 (by decide) rfl (tt_of k517 rfl) d_M_advance_87 ?_
              refine sy_iconst X d_M_advance_90 ?_
              refine m_ald X hw 6 1 (by decide) (by omega) (by simp only [szM]; omega) m1 ((congrFun (Sm.rf Mm).2.1 1).trans hm1) d_M_advance_91 ?_
              refine sy_iload_n X d_M_advance_92 hl 1 rfl ?_
              refine call_Vv (Xs := []) (b := ad 0) (As := [.int (iI ((pp : Nat) : Int)), .int (iI ((f : Nat) : Int)), .int (iI m0), .int (iI (((f : Nat) : Int) + 1)), .int (iI m1), .int (iI 100)]) (rest := []) X lk_M_126 (c_M_pair l D cs ad Mm N pp f m0 (f + 1) m1 100 130 130 (by omega) (by omega) (by omega) (by omega) (by omega) (by omega) ⟨by omega, by omega⟩ ⟨by omega, by omega⟩ hRm (by rw [hu0]; exact Bn.mul bu0 bm0) (by rw [hu1]; exact Bn.mul bu1 bm1) (by decide) (by decide)) ⟨by decide, by decide⟩ rcv_M hw rfl hl.1 (Nat.le_of_ble_eq_true rfl) d_M_advance_93 rfl rfl ⟨Nat.zero_le _, Nat.zero_le _⟩ (fun M_2 H locs p_1 hw => ?_)
              obtain ⟨N1, p_1r, p_1s, p_1v, fr1⟩ := p_1
              obtain ⟨w_3, ew_3⟩ : ∃ g, g = u0 * m0 + u1 * m1 := ⟨_, rfl⟩
              have hv_4 : N1 pp = w_3 := by rw [p_1v, hu0, hu1, ew_3]
              have hb_5 : Bn w_3 131 := by rw [ew_3]; exact Bn.add (Bn.mul bu0 bm0) (Bn.mul bu1 bm1)
              refine sy_aload_n X d_M_advance_96 hl 4 rfl ?_
              refine sy_iload_n X d_M_advance_97 hl 2 rfl ?_
              refine sy_iconst X d_M_advance_98 ?_
              refine sy_iadd X d_M_advance_99 ?_
              refine sy_iload_n X d_M_advance_100 hl 3 rfl ?_
              refine sy_aload_n X d_M_advance_101 hl 4 rfl ?_
              refine m_get X hw 8 (by decide) rfl (tt_of k517 rfl) d_M_advance_102 ?_
              refine sy_iconst X d_M_advance_105 ?_
              refine m_ald X hw 6 2 (by decide) (by omega) (by simp only [szM]; omega) m2 ((congrFun ((Sm.rf Mm).tr p_1s).2.1 2).trans hm2) d_M_advance_106 ?_
              refine sy_iload_n X d_M_advance_107 hl 3 rfl ?_
              refine sy_iconst X d_M_advance_108 ?_
              refine sy_iadd X d_M_advance_109 ?_
              refine sy_aload_n X d_M_advance_110 hl 4 rfl ?_
              refine m_get X hw 8 (by decide) rfl (tt_of k517 rfl) d_M_advance_111 ?_
              refine sy_iconst X d_M_advance_114 ?_
              refine m_ald X hw 6 3 (by decide) (by omega) (by simp only [szM]; omega) m3 ((congrFun ((Sm.rf Mm).tr p_1s).2.1 3).trans hm3) d_M_advance_115 ?_
              refine sy_iload_n X d_M_advance_116 hl 1 rfl ?_
              have hv_6 : N1 f = u0 := (fr1 f (by omega) (by omega)).trans (hu0)
              have hv_7 : N1 (f + 1) = u1 := (fr1 (f + 1) (by omega) (by omega)).trans (hu1)
              refine call_Vv (Xs := []) (b := ad 0) (As := [.int (iI (((pp : Nat) : Int) + 1)), .int (iI ((f : Nat) : Int)), .int (iI m2), .int (iI (((f : Nat) : Int) + 1)), .int (iI m3), .int (iI 100)]) (rest := []) X lk_M_126 (c_M_pair l D cs ad M_2 N1 (pp + 1) f m2 (f + 1) m3 100 130 130 (by omega) (by omega) (by omega) (by omega) (by omega) (by omega) ⟨by omega, by omega⟩ ⟨by omega, by omega⟩ p_1r (by rw [hv_6]; exact Bn.mul bu0 bm2) (by rw [hv_7]; exact Bn.mul bu1 bm3) (by decide) (by decide)) ⟨by decide, by decide⟩ rcv_M hw rfl hl.1 (Nat.le_of_ble_eq_true rfl) d_M_advance_117 rfl rfl ⟨Nat.zero_le _, Nat.zero_le _⟩ (fun M_9 H locs p_8 hw => ?_)
              obtain ⟨N2, p_8r, p_8s, p_8v, fr2⟩ := p_8
              obtain ⟨w_10, ew_10⟩ : ∃ g, g = u0 * m2 + u1 * m3 := ⟨_, rfl⟩
              have hv_11 : N2 (pp + 1) = w_10 := by rw [p_8v, hv_6, hv_7, ew_10]
              have hb_12 : Bn w_10 131 := by rw [ew_10]; exact Bn.add (Bn.mul bu0 bm2) (Bn.mul bu1 bm3)
              refine sy_iconst X d_M_advance_120 ?_
              refine sy_istore (lv1 := [(4, .int (iI 0)), (3, .int (iI 100)), (2, .int (iI ((pp : Nat) : Int))), (1, .int (iI ((f : Nat) : Int))), (0, .ref (ad 0))]) X d_M_advance_121 hl (by decide) rfl (fun ls hl => ?_)
              refine sy_iload X d_M_advance_123 hl 0 rfl ?_
              refine sy_iconst X d_M_advance_125 ?_
              refine sy_icmp_ge (tgt := 213) X d_M_advance_126 (by decide) ⟨by decide, by decide⟩ ⟨by decide, by decide⟩ (fun c7 => ?_) (fun c7 => ?_)
              · exact absurd c7 (by decide)
              · refine sy_aload_n X d_M_advance_129 hl 4 rfl ?_
                refine sy_bipush X d_M_advance_130 (by decide) ?_
                refine sy_iconst X d_M_advance_132 ?_
                refine sy_iload X d_M_advance_133 hl 0 rfl ?_
                refine sy_imul X d_M_advance_135 ?_
                refine sy_iadd X d_M_advance_136 ?_
                refine sy_iload_n X d_M_advance_137 hl 3 rfl ?_
                refine sy_iconst X d_M_advance_138 ?_
                refine sy_iadd X d_M_advance_139 ?_
                refine sy_aload_n X d_M_advance_140 hl 4 rfl ?_
                refine m_get X hw 8 (by decide) rfl (tt_of k517 rfl) d_M_advance_141 ?_
                refine sy_iconst X d_M_advance_144 ?_
                refine sy_iload X d_M_advance_145 hl 0 rfl ?_
                refine sy_imul X d_M_advance_147 ?_
                refine m_ald X hw 6 (2 * 0) (by decide) (by omega) (by simp only [szM]; omega) m0 ((congrFun (((Sm.rf Mm).tr p_1s).tr p_8s).2.1 0).trans hm0) d_M_advance_148 ?_
                refine sy_iload_n X d_M_advance_149 hl 3 rfl ?_
                refine sy_iconst X d_M_advance_150 ?_
                refine sy_iadd X d_M_advance_151 ?_
                refine sy_aload_n X d_M_advance_152 hl 4 rfl ?_
                refine m_get X hw 8 (by decide) rfl (tt_of k517 rfl) d_M_advance_153 ?_
                refine sy_iconst X d_M_advance_156 ?_
                refine sy_iload X d_M_advance_157 hl 0 rfl ?_
                refine sy_imul X d_M_advance_159 ?_
                refine sy_iconst X d_M_advance_160 ?_
                refine sy_iadd X d_M_advance_161 ?_
                refine m_ald X hw 6 ((2 * 0) + 1) (by decide) (by omega) (by simp only [szM]; omega) m1 ((congrFun (((Sm.rf Mm).tr p_1s).tr p_8s).2.1 1).trans hm1) d_M_advance_162 ?_
                refine sy_iload_n X d_M_advance_163 hl 1 rfl ?_
                have hv_13 : N2 (f + 2) = u2 := (fr2 (f + 2) (by omega) (by omega)).trans ((fr1 (f + 2) (by omega) (by omega)).trans (hu2))
                have hv_14 : N2 (f + 3) = u3 := (fr2 (f + 3) (by omega) (by omega)).trans ((fr1 (f + 3) (by omega) (by omega)).trans (hu3))
                refine call_Vv (Xs := []) (b := ad 0) (As := [.int (iI (96 + (2 * 0))), .int (iI (((f : Nat) : Int) + 2)), .int (iI m0), .int (iI (((f : Nat) : Int) + 3)), .int (iI m1), .int (iI 100)]) (rest := []) X lk_M_126 (c_M_pair l D cs ad M_9 N2 96 (f + 2) m0 (f + 3) m1 100 130 130 (by omega) (by omega) (by omega) (by omega) (by omega) (by omega) ⟨by omega, by omega⟩ ⟨by omega, by omega⟩ p_8r (by rw [hv_13]; exact Bn.mul bu2 bm0) (by rw [hv_14]; exact Bn.mul bu3 bm1) (by decide) (by decide)) ⟨by decide, by decide⟩ rcv_M hw rfl hl.1 (Nat.le_of_ble_eq_true rfl) d_M_advance_164 rfl rfl ⟨Nat.zero_le _, Nat.zero_le _⟩ (fun M_16 H locs p_15 hw => ?_)
                obtain ⟨N3, p_15r, p_15s, p_15v, fr3⟩ := p_15
                obtain ⟨w_17, ew_17⟩ : ∃ g, g = u2 * m0 + u3 * m1 := ⟨_, rfl⟩
                have hv_18 : N3 96 = w_17 := by rw [p_15v, hv_13, hv_14, ew_17]
                have hb_19 : Bn w_17 131 := by rw [ew_17]; exact Bn.add (Bn.mul bu2 bm0) (Bn.mul bu3 bm1)
                refine sy_aload_n X d_M_advance_167 hl 4 rfl ?_
                refine sy_bipush X d_M_advance_168 (by decide) ?_
                refine sy_iconst X d_M_advance_170 ?_
                refine sy_iload X d_M_advance_171 hl 0 rfl ?_
                refine sy_imul X d_M_advance_173 ?_
                refine sy_iadd X d_M_advance_174 ?_
                refine sy_iconst X d_M_advance_175 ?_
                refine sy_iadd X d_M_advance_176 ?_
                refine sy_iload_n X d_M_advance_177 hl 3 rfl ?_
                refine sy_iconst X d_M_advance_178 ?_
                refine sy_iadd X d_M_advance_179 ?_
                refine sy_aload_n X d_M_advance_180 hl 4 rfl ?_
                refine m_get X hw 8 (by decide) rfl (tt_of k517 rfl) d_M_advance_181 ?_
                refine sy_iconst X d_M_advance_184 ?_
                refine sy_iload X d_M_advance_185 hl 0 rfl ?_
                refine sy_imul X d_M_advance_187 ?_
                refine m_ald X hw 6 (2 * 0) (by decide) (by omega) (by simp only [szM]; omega) m0 ((congrFun ((((Sm.rf Mm).tr p_1s).tr p_8s).tr p_15s).2.1 0).trans hm0) d_M_advance_188 ?_
                refine sy_iload_n X d_M_advance_189 hl 3 rfl ?_
                refine sy_iconst X d_M_advance_190 ?_
                refine sy_iadd X d_M_advance_191 ?_
                refine sy_aload_n X d_M_advance_192 hl 4 rfl ?_
                refine m_get X hw 8 (by decide) rfl (tt_of k517 rfl) d_M_advance_193 ?_
                refine sy_iconst X d_M_advance_196 ?_
                refine sy_iload X d_M_advance_197 hl 0 rfl ?_
                refine sy_imul X d_M_advance_199 ?_
                refine sy_iconst X d_M_advance_200 ?_
                refine sy_iadd X d_M_advance_201 ?_
                refine m_ald X hw 6 ((2 * 0) + 1) (by decide) (by omega) (by simp only [szM]; omega) m1 ((congrFun ((((Sm.rf Mm).tr p_1s).tr p_8s).tr p_15s).2.1 1).trans hm1) d_M_advance_202 ?_
                refine sy_iload_n X d_M_advance_203 hl 1 rfl ?_
                have hv_20 : N3 (f + 3) = u3 := (fr3 (f + 3) (by omega) (by omega)).trans (hv_14)
                have hv_21 : N3 (f + 4) = u4 := (fr3 (f + 4) (by omega) (by omega)).trans ((fr2 (f + 4) (by omega) (by omega)).trans ((fr1 (f + 4) (by omega) (by omega)).trans (hu4)))
                refine call_Vv (Xs := []) (b := ad 0) (As := [.int (iI ((96 + (2 * 0)) + 1)), .int (iI (((f : Nat) : Int) + 3)), .int (iI m0), .int (iI (((f : Nat) : Int) + 4)), .int (iI m1), .int (iI 100)]) (rest := []) X lk_M_126 (c_M_pair l D cs ad M_16 N3 97 (f + 3) m0 (f + 4) m1 100 130 130 (by omega) (by omega) (by omega) (by omega) (by omega) (by omega) ⟨by omega, by omega⟩ ⟨by omega, by omega⟩ p_15r (by rw [hv_20]; exact Bn.mul bu3 bm0) (by rw [hv_21]; exact Bn.mul bu4 bm1) (by decide) (by decide)) ⟨by decide, by decide⟩ rcv_M hw rfl hl.1 (Nat.le_of_ble_eq_true rfl) d_M_advance_204 rfl rfl ⟨Nat.zero_le _, Nat.zero_le _⟩ (fun M_23 H locs p_22 hw => ?_)
                obtain ⟨N4, p_22r, p_22s, p_22v, fr4⟩ := p_22
                obtain ⟨w_24, ew_24⟩ : ∃ g, g = u3 * m0 + u4 * m1 := ⟨_, rfl⟩
                have hv_25 : N4 97 = w_24 := by rw [p_22v, hv_20, hv_21, ew_24]
                have hb_26 : Bn w_24 131 := by rw [ew_24]; exact Bn.add (Bn.mul bu3 bm0) (Bn.mul bu4 bm1)
                refine sy_iinc (lv1 := [(4, .int (iI 1)), (3, .int (iI 100)), (2, .int (iI ((pp : Nat) : Int))), (1, .int (iI ((f : Nat) : Int))), (0, .ref (ad 0))]) X d_M_advance_207 hl 0 rfl (by omega) (by decide) rfl (fun ls hl => ?_)
                refine sy_goto (tgt := 123) X d_M_advance_210 (by decide) ?_
                refine sy_iload X d_M_advance_123 hl 0 rfl ?_
                refine sy_iconst X d_M_advance_125 ?_
                refine sy_icmp_ge (tgt := 213) X d_M_advance_126 (by decide) ⟨by decide, by decide⟩ ⟨by decide, by decide⟩ (fun c8 => ?_) (fun c8 => ?_)
                · exact absurd c8 (by decide)
                · refine sy_aload_n X d_M_advance_129 hl 4 rfl ?_
                  refine sy_bipush X d_M_advance_130 (by decide) ?_
                  refine sy_iconst X d_M_advance_132 ?_
                  refine sy_iload X d_M_advance_133 hl 0 rfl ?_
                  refine sy_imul X d_M_advance_135 ?_
                  refine sy_iadd X d_M_advance_136 ?_
                  refine sy_iload_n X d_M_advance_137 hl 3 rfl ?_
                  refine sy_iconst X d_M_advance_138 ?_
                  refine sy_iadd X d_M_advance_139 ?_
                  refine sy_aload_n X d_M_advance_140 hl 4 rfl ?_
                  refine m_get X hw 8 (by decide) rfl (tt_of k517 rfl) d_M_advance_141 ?_
                  refine sy_iconst X d_M_advance_144 ?_
                  refine sy_iload X d_M_advance_145 hl 0 rfl ?_
                  refine sy_imul X d_M_advance_147 ?_
                  refine m_ald X hw 6 (2 * 1) (by decide) (by omega) (by simp only [szM]; omega) m2 ((congrFun (((((Sm.rf Mm).tr p_1s).tr p_8s).tr p_15s).tr p_22s).2.1 2).trans hm2) d_M_advance_148 ?_
                  refine sy_iload_n X d_M_advance_149 hl 3 rfl ?_
                  refine sy_iconst X d_M_advance_150 ?_
                  refine sy_iadd X d_M_advance_151 ?_
                  refine sy_aload_n X d_M_advance_152 hl 4 rfl ?_
                  refine m_get X hw 8 (by decide) rfl (tt_of k517 rfl) d_M_advance_153 ?_
                  refine sy_iconst X d_M_advance_156 ?_
                  refine sy_iload X d_M_advance_157 hl 0 rfl ?_
                  refine sy_imul X d_M_advance_159 ?_
                  refine sy_iconst X d_M_advance_160 ?_
                  refine sy_iadd X d_M_advance_161 ?_
                  refine m_ald X hw 6 ((2 * 1) + 1) (by decide) (by omega) (by simp only [szM]; omega) m3 ((congrFun (((((Sm.rf Mm).tr p_1s).tr p_8s).tr p_15s).tr p_22s).2.1 3).trans hm3) d_M_advance_162 ?_
                  refine sy_iload_n X d_M_advance_163 hl 1 rfl ?_
                  have hv_27 : N4 (f + 2) = u2 := (fr4 (f + 2) (by omega) (by omega)).trans ((fr3 (f + 2) (by omega) (by omega)).trans (hv_13))
                  have hv_28 : N4 (f + 3) = u3 := (fr4 (f + 3) (by omega) (by omega)).trans (hv_20)
                  refine call_Vv (Xs := []) (b := ad 0) (As := [.int (iI (96 + (2 * 1))), .int (iI (((f : Nat) : Int) + 2)), .int (iI m2), .int (iI (((f : Nat) : Int) + 3)), .int (iI m3), .int (iI 100)]) (rest := []) X lk_M_126 (c_M_pair l D cs ad M_23 N4 98 (f + 2) m2 (f + 3) m3 100 130 130 (by omega) (by omega) (by omega) (by omega) (by omega) (by omega) ⟨by omega, by omega⟩ ⟨by omega, by omega⟩ p_22r (by rw [hv_27]; exact Bn.mul bu2 bm2) (by rw [hv_28]; exact Bn.mul bu3 bm3) (by decide) (by decide)) ⟨by decide, by decide⟩ rcv_M hw rfl hl.1 (Nat.le_of_ble_eq_true rfl) d_M_advance_164 rfl rfl ⟨Nat.zero_le _, Nat.zero_le _⟩ (fun M_30 H locs p_29 hw => ?_)
                  obtain ⟨N5, p_29r, p_29s, p_29v, fr5⟩ := p_29
                  obtain ⟨w_31, ew_31⟩ : ∃ g, g = u2 * m2 + u3 * m3 := ⟨_, rfl⟩
                  have hv_32 : N5 98 = w_31 := by rw [p_29v, hv_27, hv_28, ew_31]
                  have hb_33 : Bn w_31 131 := by rw [ew_31]; exact Bn.add (Bn.mul bu2 bm2) (Bn.mul bu3 bm3)
                  refine sy_aload_n X d_M_advance_167 hl 4 rfl ?_
                  refine sy_bipush X d_M_advance_168 (by decide) ?_
                  refine sy_iconst X d_M_advance_170 ?_
                  refine sy_iload X d_M_advance_171 hl 0 rfl ?_
                  refine sy_imul X d_M_advance_173 ?_
                  refine sy_iadd X d_M_advance_174 ?_
                  refine sy_iconst X d_M_advance_175 ?_
                  refine sy_iadd X d_M_advance_176 ?_
                  refine sy_iload_n X d_M_advance_177 hl 3 rfl ?_
                  refine sy_iconst X d_M_advance_178 ?_
                  refine sy_iadd X d_M_advance_179 ?_
                  refine sy_aload_n X d_M_advance_180 hl 4 rfl ?_
                  refine m_get X hw 8 (by decide) rfl (tt_of k517 rfl) d_M_advance_181 ?_
                  refine sy_iconst X d_M_advance_184 ?_
                  refine sy_iload X d_M_advance_185 hl 0 rfl ?_
                  refine sy_imul X d_M_advance_187 ?_
                  refine m_ald X hw 6 (2 * 1) (by decide) (by omega) (by simp only [szM]; omega) m2 ((congrFun ((((((Sm.rf Mm).tr p_1s).tr p_8s).tr p_15s).tr p_22s).tr p_29s).2.1 2).trans hm2) d_M_advance_188 ?_
                  refine sy_iload_n X d_M_advance_189 hl 3 rfl ?_
                  refine sy_iconst X d_M_advance_190 ?_
                  refine sy_iadd X d_M_advance_191 ?_
                  refine sy_aload_n X d_M_advance_192 hl 4 rfl ?_
                  refine m_get X hw 8 (by decide) rfl (tt_of k517 rfl) d_M_advance_193 ?_
                  refine sy_iconst X d_M_advance_196 ?_
                  refine sy_iload X d_M_advance_197 hl 0 rfl ?_
                  refine sy_imul X d_M_advance_199 ?_
                  refine sy_iconst X d_M_advance_200 ?_
                  refine sy_iadd X d_M_advance_201 ?_
                  refine m_ald X hw 6 ((2 * 1) + 1) (by decide) (by omega) (by simp only [szM]; omega) m3 ((congrFun ((((((Sm.rf Mm).tr p_1s).tr p_8s).tr p_15s).tr p_22s).tr p_29s).2.1 3).trans hm3) d_M_advance_202 ?_
                  refine sy_iload_n X d_M_advance_203 hl 1 rfl ?_
                  have hv_34 : N5 (f + 3) = u3 := (fr5 (f + 3) (by omega) (by omega)).trans (hv_28)
                  have hv_35 : N5 (f + 4) = u4 := (fr5 (f + 4) (by omega) (by omega)).trans ((fr4 (f + 4) (by omega) (by omega)).trans (hv_21))
                  refine call_Vv (Xs := []) (b := ad 0) (As := [.int (iI ((96 + (2 * 1)) + 1)), .int (iI (((f : Nat) : Int) + 3)), .int (iI m2), .int (iI (((f : Nat) : Int) + 4)), .int (iI m3), .int (iI 100)]) (rest := []) X lk_M_126 (c_M_pair l D cs ad M_30 N5 99 (f + 3) m2 (f + 4) m3 100 130 130 (by omega) (by omega) (by omega) (by omega) (by omega) (by omega) ⟨by omega, by omega⟩ ⟨by omega, by omega⟩ p_29r (by rw [hv_34]; exact Bn.mul bu3 bm2) (by rw [hv_35]; exact Bn.mul bu4 bm3) (by decide) (by decide)) ⟨by decide, by decide⟩ rcv_M hw rfl hl.1 (Nat.le_of_ble_eq_true rfl) d_M_advance_204 rfl rfl ⟨Nat.zero_le _, Nat.zero_le _⟩ (fun M_37 H locs p_36 hw => ?_)
                  obtain ⟨N6, p_36r, p_36s, p_36v, fr6⟩ := p_36
                  obtain ⟨w_38, ew_38⟩ : ∃ g, g = u3 * m2 + u4 * m3 := ⟨_, rfl⟩
                  have hv_39 : N6 99 = w_38 := by rw [p_36v, hv_34, hv_35, ew_38]
                  have hb_40 : Bn w_38 131 := by rw [ew_38]; exact Bn.add (Bn.mul bu3 bm2) (Bn.mul bu4 bm3)
                  refine sy_iinc (lv1 := [(4, .int (iI 2)), (3, .int (iI 100)), (2, .int (iI ((pp : Nat) : Int))), (1, .int (iI ((f : Nat) : Int))), (0, .ref (ad 0))]) X d_M_advance_207 hl 0 rfl (by omega) (by decide) rfl (fun ls hl => ?_)
                  refine sy_goto (tgt := 123) X d_M_advance_210 (by decide) ?_
                  refine sy_iload X d_M_advance_123 hl 0 rfl ?_
                  refine sy_iconst X d_M_advance_125 ?_
                  refine sy_icmp_ge (tgt := 213) X d_M_advance_126 (by decide) ⟨by decide, by decide⟩ ⟨by decide, by decide⟩ (fun c9 => ?_) (fun c9 => ?_)
                  · refine sy_aload_n X d_M_advance_213 hl 4 rfl ?_
                    refine sy_iload_n X d_M_advance_214 hl 2 rfl ?_
                    refine sy_iconst X d_M_advance_215 ?_
                    refine sy_iadd X d_M_advance_216 ?_
                    refine sy_bipush X d_M_advance_217 (by decide) ?_
                    refine sy_aload_n X d_M_advance_219 hl 4 rfl ?_
                    refine m_get X hw 8 (by decide) rfl (tt_of k517 rfl) d_M_advance_220 ?_
                    refine sy_iconst X d_M_advance_223 ?_
                    refine m_ald X hw 6 0 (by decide) (by omega) (by simp only [szM]; omega) m0 ((congrFun (((((((Sm.rf Mm).tr p_1s).tr p_8s).tr p_15s).tr p_22s).tr p_29s).tr p_36s).2.1 0).trans hm0) d_M_advance_224 ?_
                    refine sy_bipush X d_M_advance_225 (by decide) ?_
                    refine sy_aload_n X d_M_advance_227 hl 4 rfl ?_
                    refine m_get X hw 8 (by decide) rfl (tt_of k517 rfl) d_M_advance_228 ?_
                    refine sy_iconst X d_M_advance_231 ?_
                    refine m_ald X hw 6 1 (by decide) (by omega) (by simp only [szM]; omega) m1 ((congrFun (((((((Sm.rf Mm).tr p_1s).tr p_8s).tr p_15s).tr p_22s).tr p_29s).tr p_36s).2.1 1).trans hm1) d_M_advance_232 ?_
                    refine sy_iload_n X d_M_advance_233 hl 1 rfl ?_
                    have hv_41 : N6 96 = w_17 := (fr6 96 (by omega) (by omega)).trans ((fr5 96 (by omega) (by omega)).trans ((fr4 96 (by omega) (by omega)).trans (hv_18)))
                    have hv_42 : N6 97 = w_24 := (fr6 97 (by omega) (by omega)).trans ((fr5 97 (by omega) (by omega)).trans (hv_25))
                    refine call_Vv (Xs := []) (b := ad 0) (As := [.int (iI (((pp : Nat) : Int) + 2)), .int (iI 96), .int (iI m0), .int (iI 97), .int (iI m1), .int (iI 100)]) (rest := []) X lk_M_126 (c_M_pair l D cs ad M_37 N6 (pp + 2) 96 m0 97 m1 100 133 133 (by omega) (by omega) (by omega) (by omega) (by omega) (by omega) ⟨by omega, by omega⟩ ⟨by omega, by omega⟩ p_36r (by rw [hv_41]; exact Bn.mul hb_19 bm0) (by rw [hv_42]; exact Bn.mul hb_26 bm1) (by decide) (by decide)) ⟨by decide, by decide⟩ rcv_M hw rfl hl.1 (Nat.le_of_ble_eq_true rfl) d_M_advance_234 rfl rfl ⟨Nat.zero_le _, Nat.zero_le _⟩ (fun M_44 H locs p_43 hw => ?_)
                    obtain ⟨N7, p_43r, p_43s, p_43v, fr7⟩ := p_43
                    obtain ⟨w_45, ew_45⟩ : ∃ g, g = w_17 * m0 + w_24 * m1 := ⟨_, rfl⟩
                    have hv_46 : N7 (pp + 2) = w_45 := by rw [p_43v, hv_41, hv_42, ew_45]
                    have hb_47 : Bn w_45 134 := by rw [ew_45]; exact Bn.add (Bn.mul hb_19 bm0) (Bn.mul hb_26 bm1)
                    refine sy_aload_n X d_M_advance_237 hl 4 rfl ?_
                    refine sy_iload_n X d_M_advance_238 hl 2 rfl ?_
                    refine sy_iconst X d_M_advance_239 ?_
                    refine sy_iadd X d_M_advance_240 ?_
                    refine sy_bipush X d_M_advance_241 (by decide) ?_
                    refine sy_aload_n X d_M_advance_243 hl 4 rfl ?_
                    refine m_get X hw 8 (by decide) rfl (tt_of k517 rfl) d_M_advance_244 ?_
                    refine sy_iconst X d_M_advance_247 ?_
                    refine m_ald X hw 6 2 (by decide) (by omega) (by simp only [szM]; omega) m2 ((congrFun ((((((((Sm.rf Mm).tr p_1s).tr p_8s).tr p_15s).tr p_22s).tr p_29s).tr p_36s).tr p_43s).2.1 2).trans hm2) d_M_advance_248 ?_
                    refine sy_bipush X d_M_advance_249 (by decide) ?_
                    refine sy_aload_n X d_M_advance_251 hl 4 rfl ?_
                    refine m_get X hw 8 (by decide) rfl (tt_of k517 rfl) d_M_advance_252 ?_
                    refine sy_iconst X d_M_advance_255 ?_
                    refine m_ald X hw 6 3 (by decide) (by omega) (by simp only [szM]; omega) m3 ((congrFun ((((((((Sm.rf Mm).tr p_1s).tr p_8s).tr p_15s).tr p_22s).tr p_29s).tr p_36s).tr p_43s).2.1 3).trans hm3) d_M_advance_256 ?_
                    refine sy_iload_n X d_M_advance_257 hl 1 rfl ?_
                    have hv_48 : N7 96 = w_17 := (fr7 96 (by omega) (by omega)).trans (hv_41)
                    have hv_49 : N7 97 = w_24 := (fr7 97 (by omega) (by omega)).trans (hv_42)
                    refine call_Vv (Xs := []) (b := ad 0) (As := [.int (iI (((pp : Nat) : Int) + 3)), .int (iI 96), .int (iI m2), .int (iI 97), .int (iI m3), .int (iI 100)]) (rest := []) X lk_M_126 (c_M_pair l D cs ad M_44 N7 (pp + 3) 96 m2 97 m3 100 133 133 (by omega) (by omega) (by omega) (by omega) (by omega) (by omega) ⟨by omega, by omega⟩ ⟨by omega, by omega⟩ p_43r (by rw [hv_48]; exact Bn.mul hb_19 bm2) (by rw [hv_49]; exact Bn.mul hb_26 bm3) (by decide) (by decide)) ⟨by decide, by decide⟩ rcv_M hw rfl hl.1 (Nat.le_of_ble_eq_true rfl) d_M_advance_258 rfl rfl ⟨Nat.zero_le _, Nat.zero_le _⟩ (fun M_51 H locs p_50 hw => ?_)
                    obtain ⟨N8, p_50r, p_50s, p_50v, fr8⟩ := p_50
                    obtain ⟨w_52, ew_52⟩ : ∃ g, g = w_17 * m2 + w_24 * m3 := ⟨_, rfl⟩
                    have hv_53 : N8 (pp + 3) = w_52 := by rw [p_50v, hv_48, hv_49, ew_52]
                    have hb_54 : Bn w_52 134 := by rw [ew_52]; exact Bn.add (Bn.mul hb_19 bm2) (Bn.mul hb_26 bm3)
                    refine sy_aload_n X d_M_advance_261 hl 4 rfl ?_
                    refine sy_iload_n X d_M_advance_262 hl 2 rfl ?_
                    refine sy_iconst X d_M_advance_263 ?_
                    refine sy_iadd X d_M_advance_264 ?_
                    refine sy_bipush X d_M_advance_265 (by decide) ?_
                    refine sy_aload_n X d_M_advance_267 hl 4 rfl ?_
                    refine m_get X hw 8 (by decide) rfl (tt_of k517 rfl) d_M_advance_268 ?_
                    refine sy_iconst X d_M_advance_271 ?_
                    refine m_ald X hw 6 2 (by decide) (by omega) (by simp only [szM]; omega) m2 ((congrFun (((((((((Sm.rf Mm).tr p_1s).tr p_8s).tr p_15s).tr p_22s).tr p_29s).tr p_36s).tr p_43s).tr p_50s).2.1 2).trans hm2) d_M_advance_272 ?_
                    refine sy_bipush X d_M_advance_273 (by decide) ?_
                    refine sy_aload_n X d_M_advance_275 hl 4 rfl ?_
                    refine m_get X hw 8 (by decide) rfl (tt_of k517 rfl) d_M_advance_276 ?_
                    refine sy_iconst X d_M_advance_279 ?_
                    refine m_ald X hw 6 3 (by decide) (by omega) (by simp only [szM]; omega) m3 ((congrFun (((((((((Sm.rf Mm).tr p_1s).tr p_8s).tr p_15s).tr p_22s).tr p_29s).tr p_36s).tr p_43s).tr p_50s).2.1 3).trans hm3) d_M_advance_280 ?_
                    refine sy_iload_n X d_M_advance_281 hl 1 rfl ?_
                    have hv_55 : N8 98 = w_31 := (fr8 98 (by omega) (by omega)).trans ((fr7 98 (by omega) (by omega)).trans ((fr6 98 (by omega) (by omega)).trans (hv_32)))
                    have hv_56 : N8 99 = w_38 := (fr8 99 (by omega) (by omega)).trans ((fr7 99 (by omega) (by omega)).trans (hv_39))
                    refine call_Vv (Xs := []) (b := ad 0) (As := [.int (iI (((pp : Nat) : Int) + 4)), .int (iI 98), .int (iI m2), .int (iI 99), .int (iI m3), .int (iI 100)]) (rest := []) X lk_M_126 (c_M_pair l D cs ad M_51 N8 (pp + 4) 98 m2 99 m3 100 133 133 (by omega) (by omega) (by omega) (by omega) (by omega) (by omega) ⟨by omega, by omega⟩ ⟨by omega, by omega⟩ p_50r (by rw [hv_55]; exact Bn.mul hb_33 bm2) (by rw [hv_56]; exact Bn.mul hb_40 bm3) (by decide) (by decide)) ⟨by decide, by decide⟩ rcv_M hw rfl hl.1 (Nat.le_of_ble_eq_true rfl) d_M_advance_282 rfl rfl ⟨Nat.zero_le _, Nat.zero_le _⟩ (fun M_58 H locs p_57 hw => ?_)
                    obtain ⟨N9, p_57r, p_57s, p_57v, fr9⟩ := p_57
                    obtain ⟨w_59, ew_59⟩ : ∃ g, g = w_31 * m2 + w_38 * m3 := ⟨_, rfl⟩
                    have hv_60 : N9 (pp + 4) = w_59 := by rw [p_57v, hv_55, hv_56, ew_59]
                    have hb_61 : Bn w_59 134 := by rw [ew_59]; exact Bn.add (Bn.mul hb_33 bm2) (Bn.mul hb_40 bm3)
                    refine sy_iconst X d_M_advance_285 ?_
                    refine sy_istore (lv1 := [(4, .int (iI 0)), (3, .int (iI 100)), (2, .int (iI ((pp : Nat) : Int))), (1, .int (iI ((f : Nat) : Int))), (0, .ref (ad 0))]) X d_M_advance_286 hl (by decide) rfl (fun ls hl => ?_)
                    refine sy_iload X d_M_advance_288 hl 0 rfl ?_
                    refine sy_iconst X d_M_advance_290 ?_
                    refine sy_icmp_ge (tgt := 321) X d_M_advance_291 (by decide) ⟨by decide, by decide⟩ ⟨by decide, by decide⟩ (fun c10 => ?_) (fun c10 => ?_)
                    · exact absurd c10 (by decide)
                    · refine sy_aload_n X d_M_advance_294 hl 4 rfl ?_
                      refine sy_iload_n X d_M_advance_295 hl 2 rfl ?_
                      refine sy_iconst X d_M_advance_296 ?_
                      refine sy_iadd X d_M_advance_297 ?_
                      refine sy_iload X d_M_advance_298 hl 0 rfl ?_
                      refine sy_iadd X d_M_advance_300 ?_
                      refine sy_iload_n X d_M_advance_301 hl 3 rfl ?_
                      refine sy_iconst X d_M_advance_302 ?_
                      refine sy_iadd X d_M_advance_303 ?_
                      refine sy_aload_n X d_M_advance_304 hl 4 rfl ?_
                      refine m_get X hw 9 (by decide) rfl (tt_of k518 rfl) d_M_advance_305 ?_
                      refine sy_iload X d_M_advance_308 hl 0 rfl ?_
                      refine m_ald X hw 7 0 (by decide) (by omega) (by simp only [szM]; omega) k0 ((congrFun ((((((((((Sm.rf Mm).tr p_1s).tr p_8s).tr p_15s).tr p_22s).tr p_29s).tr p_36s).tr p_43s).tr p_50s).tr p_57s).2.2.1 0).trans hk0) d_M_advance_310 ?_
                      refine sy_iload_n X d_M_advance_311 hl 1 rfl ?_
                      have hv_62 : N9 (f + 5) = u5 := (fr9 (f + 5) (by omega) (by omega)).trans ((fr8 (f + 5) (by omega) (by omega)).trans ((fr7 (f + 5) (by omega) (by omega)).trans ((fr6 (f + 5) (by omega) (by omega)).trans ((fr5 (f + 5) (by omega) (by omega)).trans ((fr4 (f + 5) (by omega) (by omega)).trans ((fr3 (f + 5) (by omega) (by omega)).trans ((fr2 (f + 5) (by omega) (by omega)).trans ((fr1 (f + 5) (by omega) (by omega)).trans (hu5)))))))))
                      have hv_63 : N9 (pp + 2) = w_45 := (fr9 (pp + 2) (by omega) (by omega)).trans ((fr8 (pp + 2) (by omega) (by omega)).trans (hv_46))
                      refine call_Vv (Xs := []) (b := ad 0) (As := [.int (iI ((((pp : Nat) : Int) + 2) + 0)), .int (iI (((f : Nat) : Int) + 5)), .int (iI k0), .int (iI 100)]) (rest := []) X lk_M_114 (c_M_gain l D cs ad M_58 N9 (pp + 2) (f + 5) k0 100 (by omega) (by omega) (by omega) (by omega) ⟨by omega, by omega⟩ p_57r (by rw [hv_62]; exact Bn.fin (Bn.mul bu5 bk0) (by decide)) (by rw [hv_63, hv_62]; exact Bn.fin (Bn.add hb_47 (Bn.mul bu5 bk0)) (by decide))) ⟨by decide, by decide⟩ rcv_M hw rfl hl.1 (Nat.le_of_ble_eq_true rfl) d_M_advance_312 rfl rfl ⟨Nat.zero_le _, Nat.zero_le _⟩ (fun M_65 H locs p_64 hw => ?_)
                      obtain ⟨N10, eN10⟩ : ∃ g, g = up1 (up1 N9 100 (N9 (f + 5) * k0)) (pp + 2) (N9 (pp + 2) + N9 (f + 5) * k0) := ⟨_, rfl⟩
                      rw [← eN10] at p_64
                      have fr10 : ∀ j, j ≠ 100 → j ≠ (pp + 2) → N10 j = N9 j := fun j h0 h1 => by rw [eN10, up1_n _ h1, up1_n _ h0]
                      obtain ⟨w_66, ew_66⟩ : ∃ g, g = u5 * k0 := ⟨_, rfl⟩
                      have hv_67 : N10 100 = w_66 := by rw [eN10, up1_n _ (by omega), up1_s, hv_62, ew_66]
                      have hb_68 : Bn w_66 135 := by rw [ew_66]; exact Bn.mul bu5 bk0
                      obtain ⟨w_69, ew_69⟩ : ∃ g, g = w_45 + u5 * k0 := ⟨_, rfl⟩
                      have hv_70 : N10 (pp + 2) = w_69 := by rw [eN10, up1_s, hv_63, hv_62, ew_69]
                      have hb_71 : Bn w_69 136 := by rw [ew_69]; exact Bn.add hb_47 (Bn.mul bu5 bk0)
                      refine sy_iinc (lv1 := [(4, .int (iI 1)), (3, .int (iI 100)), (2, .int (iI ((pp : Nat) : Int))), (1, .int (iI ((f : Nat) : Int))), (0, .ref (ad 0))]) X d_M_advance_315 hl 0 rfl (by omega) (by decide) rfl (fun ls hl => ?_)
                      refine sy_goto (tgt := 288) X d_M_advance_318 (by decide) ?_
                      refine sy_iload X d_M_advance_288 hl 0 rfl ?_
                      refine sy_iconst X d_M_advance_290 ?_
                      refine sy_icmp_ge (tgt := 321) X d_M_advance_291 (by decide) ⟨by decide, by decide⟩ ⟨by decide, by decide⟩ (fun c11 => ?_) (fun c11 => ?_)
                      · exact absurd c11 (by decide)
                      · refine sy_aload_n X d_M_advance_294 hl 4 rfl ?_
                        refine sy_iload_n X d_M_advance_295 hl 2 rfl ?_
                        refine sy_iconst X d_M_advance_296 ?_
                        refine sy_iadd X d_M_advance_297 ?_
                        refine sy_iload X d_M_advance_298 hl 0 rfl ?_
                        refine sy_iadd X d_M_advance_300 ?_
                        refine sy_iload_n X d_M_advance_301 hl 3 rfl ?_
                        refine sy_iconst X d_M_advance_302 ?_
                        refine sy_iadd X d_M_advance_303 ?_
                        refine sy_aload_n X d_M_advance_304 hl 4 rfl ?_
                        refine m_get X hw 9 (by decide) rfl (tt_of k518 rfl) d_M_advance_305 ?_
                        refine sy_iload X d_M_advance_308 hl 0 rfl ?_
                        refine m_ald X hw 7 1 (by decide) (by omega) (by simp only [szM]; omega) k1 ((congrFun (((((((((((Sm.rf Mm).tr p_1s).tr p_8s).tr p_15s).tr p_22s).tr p_29s).tr p_36s).tr p_43s).tr p_50s).tr p_57s).tr p_64.2).2.2.1 1).trans hk1) d_M_advance_310 ?_
                        refine sy_iload_n X d_M_advance_311 hl 1 rfl ?_
                        have hv_72 : N10 (f + 5) = u5 := (fr10 (f + 5) (by omega) (by omega)).trans (hv_62)
                        have hv_73 : N10 (pp + 3) = w_52 := (fr10 (pp + 3) (by omega) (by omega)).trans ((fr9 (pp + 3) (by omega) (by omega)).trans (hv_53))
                        refine call_Vv (Xs := []) (b := ad 0) (As := [.int (iI ((((pp : Nat) : Int) + 2) + 1)), .int (iI (((f : Nat) : Int) + 5)), .int (iI k1), .int (iI 100)]) (rest := []) X lk_M_114 (c_M_gain l D cs ad M_65 N10 (pp + 3) (f + 5) k1 100 (by omega) (by omega) (by omega) (by omega) ⟨by omega, by omega⟩ p_64.1 (by rw [hv_72]; exact Bn.fin (Bn.mul bu5 bk1) (by decide)) (by rw [hv_73, hv_72]; exact Bn.fin (Bn.add hb_54 (Bn.mul bu5 bk1)) (by decide))) ⟨by decide, by decide⟩ rcv_M hw rfl hl.1 (Nat.le_of_ble_eq_true rfl) d_M_advance_312 rfl rfl ⟨Nat.zero_le _, Nat.zero_le _⟩ (fun M_75 H locs p_74 hw => ?_)
                        obtain ⟨N11, eN11⟩ : ∃ g, g = up1 (up1 N10 100 (N10 (f + 5) * k1)) (pp + 3) (N10 (pp + 3) + N10 (f + 5) * k1) := ⟨_, rfl⟩
                        rw [← eN11] at p_74
                        have fr11 : ∀ j, j ≠ 100 → j ≠ (pp + 3) → N11 j = N10 j := fun j h0 h1 => by rw [eN11, up1_n _ h1, up1_n _ h0]
                        obtain ⟨w_76, ew_76⟩ : ∃ g, g = u5 * k1 := ⟨_, rfl⟩
                        have hv_77 : N11 100 = w_76 := by rw [eN11, up1_n _ (by omega), up1_s, hv_72, ew_76]
                        have hb_78 : Bn w_76 135 := by rw [ew_76]; exact Bn.mul bu5 bk1
                        obtain ⟨w_79, ew_79⟩ : ∃ g, g = w_52 + u5 * k1 := ⟨_, rfl⟩
                        have hv_80 : N11 (pp + 3) = w_79 := by rw [eN11, up1_s, hv_73, hv_72, ew_79]
                        have hb_81 : Bn w_79 136 := by rw [ew_79]; exact Bn.add hb_54 (Bn.mul bu5 bk1)
                        refine sy_iinc (lv1 := [(4, .int (iI 2)), (3, .int (iI 100)), (2, .int (iI ((pp : Nat) : Int))), (1, .int (iI ((f : Nat) : Int))), (0, .ref (ad 0))]) X d_M_advance_315 hl 0 rfl (by omega) (by decide) rfl (fun ls hl => ?_)
                        refine sy_goto (tgt := 288) X d_M_advance_318 (by decide) ?_
                        refine sy_iload X d_M_advance_288 hl 0 rfl ?_
                        refine sy_iconst X d_M_advance_290 ?_
                        refine sy_icmp_ge (tgt := 321) X d_M_advance_291 (by decide) ⟨by decide, by decide⟩ ⟨by decide, by decide⟩ (fun c12 => ?_) (fun c12 => ?_)
                        · exact absurd c12 (by decide)
                        · refine sy_aload_n X d_M_advance_294 hl 4 rfl ?_
                          refine sy_iload_n X d_M_advance_295 hl 2 rfl ?_
                          refine sy_iconst X d_M_advance_296 ?_
                          refine sy_iadd X d_M_advance_297 ?_
                          refine sy_iload X d_M_advance_298 hl 0 rfl ?_
                          refine sy_iadd X d_M_advance_300 ?_
                          refine sy_iload_n X d_M_advance_301 hl 3 rfl ?_
                          refine sy_iconst X d_M_advance_302 ?_
                          refine sy_iadd X d_M_advance_303 ?_
                          refine sy_aload_n X d_M_advance_304 hl 4 rfl ?_
                          refine m_get X hw 9 (by decide) rfl (tt_of k518 rfl) d_M_advance_305 ?_
                          refine sy_iload X d_M_advance_308 hl 0 rfl ?_
                          refine m_ald X hw 7 2 (by decide) (by omega) (by simp only [szM]; omega) k2 ((congrFun ((((((((((((Sm.rf Mm).tr p_1s).tr p_8s).tr p_15s).tr p_22s).tr p_29s).tr p_36s).tr p_43s).tr p_50s).tr p_57s).tr p_64.2).tr p_74.2).2.2.1 2).trans hk2) d_M_advance_310 ?_
                          refine sy_iload_n X d_M_advance_311 hl 1 rfl ?_
                          have hv_82 : N11 (f + 5) = u5 := (fr11 (f + 5) (by omega) (by omega)).trans (hv_72)
                          have hv_83 : N11 (pp + 4) = w_59 := (fr11 (pp + 4) (by omega) (by omega)).trans ((fr10 (pp + 4) (by omega) (by omega)).trans (hv_60))
                          refine call_Vv (Xs := []) (b := ad 0) (As := [.int (iI ((((pp : Nat) : Int) + 2) + 2)), .int (iI (((f : Nat) : Int) + 5)), .int (iI k2), .int (iI 100)]) (rest := []) X lk_M_114 (c_M_gain l D cs ad M_75 N11 (pp + 4) (f + 5) k2 100 (by omega) (by omega) (by omega) (by omega) ⟨by omega, by omega⟩ p_74.1 (by rw [hv_82]; exact Bn.fin (Bn.mul bu5 bk2) (by decide)) (by rw [hv_83, hv_82]; exact Bn.fin (Bn.add hb_61 (Bn.mul bu5 bk2)) (by decide))) ⟨by decide, by decide⟩ rcv_M hw rfl hl.1 (Nat.le_of_ble_eq_true rfl) d_M_advance_312 rfl rfl ⟨Nat.zero_le _, Nat.zero_le _⟩ (fun M_85 H locs p_84 hw => ?_)
                          obtain ⟨N12, eN12⟩ : ∃ g, g = up1 (up1 N11 100 (N11 (f + 5) * k2)) (pp + 4) (N11 (pp + 4) + N11 (f + 5) * k2) := ⟨_, rfl⟩
                          rw [← eN12] at p_84
                          have fr12 : ∀ j, j ≠ 100 → j ≠ (pp + 4) → N12 j = N11 j := fun j h0 h1 => by rw [eN12, up1_n _ h1, up1_n _ h0]
                          obtain ⟨w_86, ew_86⟩ : ∃ g, g = u5 * k2 := ⟨_, rfl⟩
                          have hv_87 : N12 100 = w_86 := by rw [eN12, up1_n _ (by omega), up1_s, hv_82, ew_86]
                          have hb_88 : Bn w_86 135 := by rw [ew_86]; exact Bn.mul bu5 bk2
                          obtain ⟨w_89, ew_89⟩ : ∃ g, g = w_59 + u5 * k2 := ⟨_, rfl⟩
                          have hv_90 : N12 (pp + 4) = w_89 := by rw [eN12, up1_s, hv_83, hv_82, ew_89]
                          have hb_91 : Bn w_89 136 := by rw [ew_89]; exact Bn.add hb_61 (Bn.mul bu5 bk2)
                          refine sy_iinc (lv1 := [(4, .int (iI 3)), (3, .int (iI 100)), (2, .int (iI ((pp : Nat) : Int))), (1, .int (iI ((f : Nat) : Int))), (0, .ref (ad 0))]) X d_M_advance_315 hl 0 rfl (by omega) (by decide) rfl (fun ls hl => ?_)
                          refine sy_goto (tgt := 288) X d_M_advance_318 (by decide) ?_
                          refine sy_iload X d_M_advance_288 hl 0 rfl ?_
                          refine sy_iconst X d_M_advance_290 ?_
                          refine sy_icmp_ge (tgt := 321) X d_M_advance_291 (by decide) ⟨by decide, by decide⟩ ⟨by decide, by decide⟩ (fun c13 => ?_) (fun c13 => ?_)
                          · refine sy_aload_n X d_M_advance_321 hl 4 rfl ?_
                            refine sy_iload_n X d_M_advance_322 hl 2 rfl ?_
                            refine sy_iconst X d_M_advance_323 ?_
                            refine sy_iadd X d_M_advance_324 ?_
                            refine sy_iload_n X d_M_advance_325 hl 3 rfl ?_
                            refine sy_iconst X d_M_advance_326 ?_
                            refine sy_iadd X d_M_advance_327 ?_
                            have hv_92 : N12 (f + 5) = u5 := (fr12 (f + 5) (by omega) (by omega)).trans (hv_82)
                            refine call_Vv (Xs := []) (b := ad 0) (As := [.int (iI (((pp : Nat) : Int) + 5)), .int (iI (((f : Nat) : Int) + 5))]) (rest := []) X lk_M_78 (c_M_copy l D cs ad M_85 N12 (pp + 5) (f + 5) (by omega) (by omega) p_84.1) ⟨by decide, by decide⟩ rcv_M hw rfl hl.1 (Nat.le_of_ble_eq_true rfl) d_M_advance_328 rfl rfl ⟨Nat.zero_le _, Nat.zero_le _⟩ (fun M_94 H locs p_930 hw => ?_)
                            have p_93 := (⟨p_930.1, p_930.2.1⟩ : Rep M_94 (up1 N12 (pp + 5) (N12 (f + 5))) ∧ Sm M_85 M_94)
                            obtain ⟨N13, eN13⟩ : ∃ g, g = up1 N12 (pp + 5) (N12 (f + 5)) := ⟨_, rfl⟩
                            rw [← eN13] at p_93
                            have fr13 : ∀ j, j ≠ (pp + 5) → N13 j = N12 j := fun j h0 => by rw [eN13, up1_n _ h0]
                            obtain ⟨w_95, ew_95⟩ : ∃ g, g = u5 := ⟨_, rfl⟩
                            have hv_96 : N13 (pp + 5) = w_95 := by rw [eN13, up1_s, hv_92, ew_95]
                            have hb_97 : Bn w_95 128 := by rw [ew_95]; exact bu5
                            have hv_98 : N13 pp = w_3 := (fr13 pp (by omega)).trans ((fr12 pp (by omega) (by omega)).trans ((fr11 pp (by omega) (by omega)).trans ((fr10 pp (by omega) (by omega)).trans ((fr9 pp (by omega) (by omega)).trans ((fr8 pp (by omega) (by omega)).trans ((fr7 pp (by omega) (by omega)).trans ((fr6 pp (by omega) (by omega)).trans ((fr5 pp (by omega) (by omega)).trans ((fr4 pp (by omega) (by omega)).trans ((fr3 pp (by omega) (by omega)).trans ((fr2 pp (by omega) (by omega)).trans (hv_4))))))))))))
                            have hv_99 : N13 (pp + 1) = w_10 := (fr13 (pp + 1) (by omega)).trans ((fr12 (pp + 1) (by omega) (by omega)).trans ((fr11 (pp + 1) (by omega) (by omega)).trans ((fr10 (pp + 1) (by omega) (by omega)).trans ((fr9 (pp + 1) (by omega) (by omega)).trans ((fr8 (pp + 1) (by omega) (by omega)).trans ((fr7 (pp + 1) (by omega) (by omega)).trans ((fr6 (pp + 1) (by omega) (by omega)).trans ((fr5 (pp + 1) (by omega) (by omega)).trans ((fr4 (pp + 1) (by omega) (by omega)).trans ((fr3 (pp + 1) (by omega) (by omega)).trans (hv_11)))))))))))
                            have hv_100 : N13 (pp + 2) = w_69 := (fr13 (pp + 2) (by omega)).trans ((fr12 (pp + 2) (by omega) (by omega)).trans ((fr11 (pp + 2) (by omega) (by omega)).trans (hv_70)))
                            have hv_101 : N13 (pp + 3) = w_79 := (fr13 (pp + 3) (by omega)).trans ((fr12 (pp + 3) (by omega) (by omega)).trans (hv_80))
                            have hv_102 : N13 (pp + 4) = w_89 := (fr13 (pp + 4) (by omega)).trans (hv_90)
                            obtain ⟨U, hU⟩ : ∃ g : Nat → Int, g = fun i => N (f + i) := ⟨_, rfl⟩
                            have hUi : U 0 = u0 ∧ U 1 = u1 ∧ U 2 = u2 ∧ U 3 = u3 ∧ U 4 = u4 ∧ U 5 = u5 := by rw [hU]; exact ⟨hu0, hu1, hu2, hu3, hu4, hu5⟩
                            obtain ⟨U0, U1, U2, U3, U4, U5⟩ := hUi
                            have hV0 : N13 (pp + 0) = advV U (M 6) (M 7) 0 := by
                              simp only [advV, U0, U1, U2, U3, U4, U5, hm0', hm1', hm2', hm3', hk0', hk1', hk2']
                              rw [show pp + 0 = pp from rfl, hv_98]
                              simp only [ew_95, ew_89, ew_86, ew_79, ew_76, ew_69, ew_66, ew_59, ew_52, ew_45, ew_38, ew_31, ew_24, ew_17, ew_10, ew_3]
                            have hV1 : N13 (pp + 1) = advV U (M 6) (M 7) 1 := by
                              simp only [advV, U0, U1, U2, U3, U4, U5, hm0', hm1', hm2', hm3', hk0', hk1', hk2']
                              rw [hv_99]
                              simp only [ew_95, ew_89, ew_86, ew_79, ew_76, ew_69, ew_66, ew_59, ew_52, ew_45, ew_38, ew_31, ew_24, ew_17, ew_10, ew_3]
                            have hV2 : N13 (pp + 2) = advV U (M 6) (M 7) 2 := by
                              simp only [advV, U0, U1, U2, U3, U4, U5, hm0', hm1', hm2', hm3', hk0', hk1', hk2']
                              rw [hv_100]
                              simp only [ew_95, ew_89, ew_86, ew_79, ew_76, ew_69, ew_66, ew_59, ew_52, ew_45, ew_38, ew_31, ew_24, ew_17, ew_10, ew_3]
                            have hV3 : N13 (pp + 3) = advV U (M 6) (M 7) 3 := by
                              simp only [advV, U0, U1, U2, U3, U4, U5, hm0', hm1', hm2', hm3', hk0', hk1', hk2']
                              rw [hv_101]
                              simp only [ew_95, ew_89, ew_86, ew_79, ew_76, ew_69, ew_66, ew_59, ew_52, ew_45, ew_38, ew_31, ew_24, ew_17, ew_10, ew_3]
                            have hV4 : N13 (pp + 4) = advV U (M 6) (M 7) 4 := by
                              simp only [advV, U0, U1, U2, U3, U4, U5, hm0', hm1', hm2', hm3', hk0', hk1', hk2']
                              rw [hv_102]
                              simp only [ew_95, ew_89, ew_86, ew_79, ew_76, ew_69, ew_66, ew_59, ew_52, ew_45, ew_38, ew_31, ew_24, ew_17, ew_10, ew_3]
                            have hV5 : N13 (pp + 5) = advV U (M 6) (M 7) 5 := by
                              simp only [advV, U0, U1, U2, U3, U4, U5, hm0', hm1', hm2', hm3', hk0', hk1', hk2']
                              rw [hv_96]
                              simp only [ew_95, ew_89, ew_86, ew_79, ew_76, ew_69, ew_66, ew_59, ew_52, ew_45, ew_38, ew_31, ew_24, ew_17, ew_10, ew_3]
                            have hVa : ∀ i, i < 6 → N13 (pp + i) = advV U (M 6) (M 7) i := fun i hi => by
                              have : i = 0 ∨ i = 1 ∨ i = 2 ∨ i = 3 ∨ i = 4 ∨ i = 5 := by omega
                              rcases this with e | e | e | e | e | e <;> subst e <;> assumption
                            refine sy_aload_n X d_M_advance_331 hl 4 rfl ?_
                            refine sy_dup X d_M_advance_332 rfl ?_
                            refine m_get (v := .int (iI (t : Int))) X hw 5 (by decide) (by show some (Value.int (iI (M_94 0 0))) = _; rw [show (M_94) 0 0 = (M_94) 0 0 from rfl, ((((((((((((((Sm.rf Mm).tr p_1s).tr p_8s).tr p_15s).tr p_22s).tr p_29s).tr p_36s).tr p_43s).tr p_50s).tr p_57s).tr p_64.2).tr p_74.2).tr p_84.2).tr p_93.2).1, e08.1, ht]) (tt_of k514 rfl) d_M_advance_333 ?_
                            refine sy_iconst X d_M_advance_336 ?_
                            refine sy_iadd X d_M_advance_337 ?_
                            refine m_put X hw 0 (by decide) (tt_of k514 rfl) d_M_advance_338 (fun H locs hw => ?_)
                            refine sy_aload_n X d_M_advance_341 hl 4 rfl ?_
                            refine sy_bipush X d_M_advance_342 (by decide) ?_
                            refine sy_bipush X d_M_advance_344 (by decide) ?_
                            refine sy_aload_n X d_M_advance_346 hl 4 rfl ?_
                            refine m_get (v := .int (iI ((t : Int) + 1))) X hw 5 (by decide) (by show some (Value.int (iI ((up2 M_94 0 0 ((t : Int) + 1)) 0 0))) = _; rw [show (up2 M_94 0 0 ((t : Int) + 1)) 0 0 = (t : Int) + 1 from rfl]) (tt_of k514 rfl) d_M_advance_347 ?_
                            refine sy_imul X d_M_advance_350 ?_
                            refine sy_iadd X d_M_advance_351 ?_
                            refine sy_iload_n X d_M_advance_352 hl 2 rfl ?_
                            refine call_Vv (Xs := []) (b := ad 0) (As := [.int (iI (24 + (6 * ((t : Int) + 1)))), .int (iI ((pp : Nat) : Int))]) (rest := []) X lk_M_104 (c_M_keep l D cs ad (up2 M_94 0 0 ((t : Int) + 1)) N13 (24 + 6 * (t + 1)) pp (by omega) (by omega) (by omega) p_93.1) ⟨by decide, by decide⟩ rcv_M hw rfl hl.1 (Nat.le_of_ble_eq_true rfl) d_M_advance_353 rfl rfl ⟨Nat.zero_le _, Nat.zero_le _⟩ (fun Mz H locs pz hw => ?_)
                            obtain ⟨Nz, pzr, pzs, pzv⟩ := pz
                            refine sy_aload_n X d_M_advance_356 hl 4 rfl ?_
                            refine sy_iconst X d_M_advance_357 ?_
                            refine m_putz X hw (by decide) (tt_of k516 rfl) d_M_advance_358 (fun H locs hw => ?_)
                            refine sy_aload_n X d_M_advance_361 hl 4 rfl ?_
                            refine m_get (v := .int (iI ((t : Int) + 1))) X hw 5 (by decide) (by show some (Value.int (iI ((up2 Mz 0 2 0) 0 0))) = _; rw [show (up2 Mz 0 2 0) 0 0 = Mz 0 0 from rfl, pzs.1, show (up2 (M_94) 0 0 ((t : Int) + 1)) 0 0 = (t : Int) + 1 from rfl]) (tt_of k514 rfl) d_M_advance_362 ?_
                            have hsm0 : Sm Mm (M_94) := ((((((((((((((Sm.rf Mm).tr p_1s).tr p_8s).tr p_15s).tr p_22s).tr p_29s).tr p_36s).tr p_43s).tr p_50s).tr p_57s).tr p_64.2).tr p_74.2).tr p_84.2).tr p_93.2)
                            refine kr ((t : Int) + 1, up2 Mz 0 2 0) _ _ _ _ _ d_M_advance_365 hw (Or.inr ⟨by omega, rfl, Nz, pzr, ⟨?_, ?_, rfl⟩, ⟨?_, ?_, ?_⟩, fun i hi => ?_, fun i hi => ?_, ?_⟩) rfl
                            · show Mz 0 0 = _; rw [pzs.1]; rfl
                            · show Mz 0 1 = _; rw [pzs.1]; show (M_94) 0 1 = M 0 1; rw [hsm0.1, e08.1]
                            · show Mz 6 = _; rw [pzs.2.1]; show (M_94) 6 = M 6; rw [hsm0.2.1, e08.2.1]
                            · show Mz 7 = _; rw [pzs.2.2.1]; show (M_94) 7 = M 7; rw [hsm0.2.2.1, e08.2.2.1]
                            · show Mz 8 = _; rw [pzs.2.2.2]; show (M_94) 8 = _; rw [hsm0.2.2.2, e08.2.2.2]
                            · rw [← hU, pzv, if_neg (by omega), hVa i hi]
                            · rw [← hU, pzv, if_pos (by omega), ← hVa i hi]; congr 1; omega
                            · intro j hj h1 h2; rw [pzv j, if_neg (by omega)]; exact (fr13 j (by omega)).trans ((fr12 j (by omega) (by omega)).trans ((fr11 j (by omega) (by omega)).trans ((fr10 j (by omega) (by omega)).trans ((fr9 j (by omega) (by omega)).trans ((fr8 j (by omega) (by omega)).trans ((fr7 j (by omega) (by omega)).trans ((fr6 j (by omega) (by omega)).trans ((fr5 j (by omega) (by omega)).trans ((fr4 j (by omega) (by omega)).trans ((fr3 j (by omega) (by omega)).trans ((fr2 j (by omega) (by omega)).trans ((fr1 j (by omega) (by omega)).trans (rfl)))))))))))))
                          · exact absurd c13 (by decide)
                  · exact absurd c9 (by decide)
            · exact absurd c6 (by decide)
  · refine sy_bipush X d_M_advance_8 (by decide) ?_
    exact kr (-5, M) _ _ _ _ _ d_M_advance_10 hw (Or.inl ⟨by omega, rfl⟩) rfl
