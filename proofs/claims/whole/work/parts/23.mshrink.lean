def gF (a : Int) (f : Nat → Int) : Nat → Nat
  | 0 => a.natAbs
  | k + 1 => Nat.gcd (gF a f k) (f k).natAbs
theorem gF_pos {a : Int} (f : Nat → Int) (h : a ≠ 0) : ∀ k, 0 < gF a f k
  | 0 => by simp only [gF]; omega
  | k + 1 => Nat.gcd_pos_of_pos_left _ (gF_pos f h k)
theorem gF_mono (a : Int) (f : Nat → Int) {k : Nat} : ∀ {n : Nat}, k ≤ n → gF a f n ∣ gF a f k
  | 0, h => by rw [show k = 0 by omega]; exact Nat.dvd_refl _
  | n + 1, h => by
    by_cases e : k = n + 1
    · rw [e]; exact Nat.dvd_refl _
    · exact Nat.dvd_trans (Nat.gcd_dvd_left _ _) (gF_mono a f (show k ≤ n by omega))
theorem gF_dvd (a : Int) (f : Nat → Int) {k n : Nat} (h : k < n) : ((gF a f n : Nat) : Int) ∣ f k := by
  have h1 : gF a f n ∣ gF a f (k + 1) := gF_mono a f h
  have h2 : gF a f (k + 1) ∣ (f k).natAbs := Nat.gcd_dvd_right _ _
  exact Int.ofNat_dvd_left.mpr (Nat.dvd_trans h1 h2)
theorem gF_dvd0 (a : Int) (f : Nat → Int) (n : Nat) : ((gF a f n : Nat) : Int) ∣ a := Int.ofNat_dvd_left.mpr (gF_mono a f (Nat.zero_le n))
theorem sg_div {n : Int} {g : Nat} (hg : 0 < g) (h : (g : Int) ∣ n) : n.sign * (g : Int).sign * ((n.natAbs : Int) / ((g : Int).natAbs : Int)) = n / (g : Int) := by
  obtain ⟨t, rfl⟩ := h
  have hgi : (0 : Int) < (g : Int) := by omega
  rw [sgn_pos hgi, Int.natAbs_mul, Int.sign_mul, sgn_pos hgi, Int.mul_ediv_cancel_left _ (by omega)]
  have e1 : (((g : Int).natAbs * t.natAbs : Nat) : Int) = (g : Int) * (t.natAbs : Int) := by simp
  have e2 : ((g : Int).natAbs : Int) = (g : Int) := by simp
  rw [e1, e2, Int.mul_ediv_cancel_left _ (by omega), Int.one_mul, Int.mul_one, sgn_abs]
set_option maxRecDepth 100000 in
set_option maxHeartbeats 4000000 in
theorem c_M_shrink (l : Launch) (D : va_G) (cs : Nat → ClassId) (ad : Nat → Nat) (M : Nat → Nat → Int) (N : Nat → Int) (fr mn : Nat) (h1 : 1 ≤ mn) (h2 : fr + mn ≤ 117) (hR : Rep M N) (hpos : 0 < N (fr + mn - 1)) : Ct (S := Nat → Nat → Int) l D (tyL cs) y_M_shrink b_M_shrink 5 none (rm 6) [.ref (ad 0), .int (iI ((fr : Nat) : Int)), .int (iI ((mn : Nat) : Int))] (wM ad cs M) (fun M1 => ∃ N1, Rep M1 N1 ∧ Sm M M1 ∧ ∀ j, j < 117 → N1 j = if fr ≤ j ∧ j < fr + mn then N j / ((gF (N (fr + mn - 1)) (fun i => N (fr + i)) (mn - 1) : Nat) : Int) else N j) (fun _ => none) (fun M1 => wM ad cs M1) := by
  refine Ct.introV (by decide) (Nat.le_of_ble_eq_true rfl) (fun _ => rfl) ?_
  intro p e s m below meth c A args Q H locs X hnm hw kr ls hl
  have X : CX D (tyL cs) R_M b_M_shrink 5 p m c s args := X
  have hl : lv_has ls 5 [(0, .ref (ad 0)), (1, .int (iI ((fr : Nat) : Int))), (2, .int (iI ((mn : Nat) : Int)))] := hl
  refine sy_bipush X d_M_shrink_0 (by decide) ?_
  refine sy_istore_n (lv1 := [(3, .int (iI 119)), (0, .ref (ad 0)), (1, .int (iI ((fr : Nat) : Int))), (2, .int (iI ((mn : Nat) : Int)))]) X d_M_shrink_2 hl rfl (by decide) rfl (fun ls hl => ?_)
  refine sy_aload_n X d_M_shrink_3 hl 1 rfl ?_
  refine sy_iload_n X d_M_shrink_4 hl 0 rfl ?_
  refine sy_iload_n X d_M_shrink_5 hl 2 rfl ?_
  refine sy_iload_n X d_M_shrink_6 hl 3 rfl ?_
  refine sy_iadd X d_M_shrink_7 ?_
  refine sy_iconst X d_M_shrink_8 ?_
  refine sy_isub X d_M_shrink_9 ?_
  rw [show (((fr : Nat) : Int) + ((mn : Nat) : Int) - 1) = ((fr + mn - 1 : Nat) : Int) by omega]
  refine call_Vv (Xs := []) (b := ad 0) (As := [.int (iI 119), .int (iI ((fr + mn - 1 : Nat) : Int))]) (rest := []) X lk_M_78 (c_M_copy l D cs ad M N 119 (fr + mn - 1) (by decide) (by omega) hR) ⟨by decide, by decide⟩ rcv_M hw rfl hl.1 (Nat.le_of_ble_eq_true rfl) d_M_shrink_10 rfl rfl ⟨Nat.zero_le _, Nat.zero_le _⟩ (fun A1 H locs p1 hw => ?_)
  refine sy_iconst X d_M_shrink_13 ?_
  refine sy_istore (lv1 := [(4, .int (iI 0)), (3, .int (iI 119)), (0, .ref (ad 0)), (1, .int (iI ((fr : Nat) : Int))), (2, .int (iI ((mn : Nat) : Int)))]) X d_M_shrink_14 hl (by decide) rfl (fun ls hl => ?_)
  have key1 : ∀ (n : Nat) (k : Nat) (M1 : Nat → Nat → Int) (N1 : Nat → Int) (H : Heap) (locs : List Loc) (ls : Array Slot), k ≤ mn - 1 → mn - 1 < k + n → Rep M1 N1 → Sm M M1 → N1 119 = ((gF (N (fr + mn - 1)) (fun i => N (fr + i)) k : Nat) : Int) → (∀ j, j < 117 → N1 j = N j) → HW D A s.heap (wM ad cs M1) H locs → lv_has ls 5 [(0, .ref (ad 0)), (1, .int (iI ((fr : Nat) : Int))), (2, .int (iI ((mn : Nat) : Int))), (3, .int (iI 119)), (4, .int (iI ((k : Nat) : Int)))] → W p l e (rm 6) s m args below meth c H locs 0 0 Q (F0 m 16 ls []) := by
    intro n
    induction n with
    | zero =>
      intro k M1 N1 H locs ls f1 f2 f3 f4 f5 f6 hw hl
      exfalso; omega
    | succ n ih_key1 =>
      intro k M1 N1 H locs ls f1 f2 f3 f4 f5 f6 hw hl
      refine sy_iload X d_M_shrink_16 hl 4 rfl ?_
      refine sy_iload_n X d_M_shrink_18 hl 2 rfl ?_
      refine sy_iconst X d_M_shrink_19 ?_
      refine sy_isub X d_M_shrink_20 ?_
      refine sy_icmp_ge (tgt := 43) X d_M_shrink_21 (by decide) ⟨by omega, by omega⟩ ⟨by omega, by omega⟩ (fun c1 => ?_) (fun c1 => ?_)
      · refine sy_iconst X d_M_shrink_43 ?_
        refine sy_istore (lv1 := [(4, .int (iI 0)), (0, .ref (ad 0)), (1, .int (iI ((fr : Nat) : Int))), (2, .int (iI ((mn : Nat) : Int))), (3, .int (iI 119))]) X d_M_shrink_44 hl (by decide) rfl (fun ls hl => ?_)
        have key2 : ∀ (n : Nat) (k : Nat) (M1 : Nat → Nat → Int) (N1 : Nat → Int) (H : Heap) (locs : List Loc) (ls : Array Slot), k ≤ mn → mn < k + n → Rep M1 N1 → Sm M M1 → N1 119 = ((gF (N (fr + mn - 1)) (fun i => N (fr + i)) (mn - 1) : Nat) : Int) → (∀ j, j < 117 → N1 j = if fr ≤ j ∧ j < fr + k then N j / ((gF (N (fr + mn - 1)) (fun i => N (fr + i)) (mn - 1) : Nat) : Int) else N j) → HW D A s.heap (wM ad cs M1) H locs → lv_has ls 5 [(0, .ref (ad 0)), (1, .int (iI ((fr : Nat) : Int))), (2, .int (iI ((mn : Nat) : Int))), (3, .int (iI 119)), (4, .int (iI ((k : Nat) : Int)))] → W p l e (rm 6) s m args below meth c H locs 0 0 Q (F0 m 46 ls []) := by
          intro n
          induction n with
          | zero =>
            intro k M1 N1 H locs ls d1 d2 d3 d4 d5 d6 hw hl
            exfalso; omega
          | succ n ih_key2 =>
            intro k M1 N1 H locs ls d1 d2 d3 d4 d5 d6 hw hl
            refine sy_iload X d_M_shrink_46 hl 4 rfl ?_
            refine sy_iload_n X d_M_shrink_48 hl 2 rfl ?_
            refine sy_icmp_ge (tgt := 71) X d_M_shrink_49 (by decide) ⟨by omega, by omega⟩ ⟨by omega, by omega⟩ (fun c2 => ?_) (fun c2 => ?_)
            · exact kr _ _ _ _ _ d_M_shrink_71 hw ⟨N1, d3, d4, fun j hj => by rw [d6 j hj, show k = mn by omega]⟩
            · refine sy_aload_n X d_M_shrink_52 hl 0 rfl ?_
              refine sy_iload_n X d_M_shrink_53 hl 1 rfl ?_
              refine sy_iload X d_M_shrink_54 hl 4 rfl ?_
              refine sy_iadd X d_M_shrink_56 ?_
              refine sy_iload_n X d_M_shrink_57 hl 1 rfl ?_
              refine sy_iload X d_M_shrink_58 hl 4 rfl ?_
              refine sy_iadd X d_M_shrink_60 ?_
              refine sy_iload_n X d_M_shrink_61 hl 3 rfl ?_
              have hG0 : 0 < gF (N (fr + mn - 1)) (fun i => N (fr + i)) (mn - 1) := gF_pos _ (by omega) _
              have hk0 : N1 (fr + k) = N (fr + k) := by rw [d6 _ (by omega), if_neg (by omega)]
              have hdv : ((gF (N (fr + mn - 1)) (fun i => N (fr + i)) (mn - 1) : Nat) : Int) ∣ N (fr + k) := by
                by_cases e : k = mn - 1
                · have := gF_dvd0 (N (fr + mn - 1)) (fun i => N (fr + i)) (mn - 1)
                  rw [show fr + k = fr + mn - 1 by omega]; exact this
                · exact gF_dvd (N (fr + mn - 1)) (fun i => N (fr + i)) (show k < mn - 1 by omega)
              refine call_Vv (Xs := []) (b := ad 0) (As := [.int (iI (((fr : Nat) : Int) + ((k : Nat) : Int))), .int (iI (((fr : Nat) : Int) + ((k : Nat) : Int))), .int (iI 119)]) (rest := []) X lk_M_87 (c_M_part l D cs ad M1 N1 (fr + k) (fr + k) 119 (by omega) (by omega) (by decide) d3 (by rw [d5]; omega)) ⟨by decide, by decide⟩ rcv_M hw rfl hl.1 (Nat.le_of_ble_eq_true rfl) d_M_shrink_62 rfl rfl ⟨Nat.zero_le _, Nat.zero_le _⟩ (fun M2 H locs e1 hw => ?_)
              rw [d5, hk0, sg_div hG0 hdv] at e1
              obtain ⟨N2, eN2⟩ : ∃ g, g = up1 N1 (fr + k) (N (fr + k) / ((gF (N (fr + mn - 1)) (fun i => N (fr + i)) (mn - 1) : Nat) : Int)) := ⟨_, rfl⟩
              rw [← eN2] at e1
              have hN2 : ∀ j, j < 117 → N2 j = if fr ≤ j ∧ j < fr + (k + 1) then N j / ((gF (N (fr + mn - 1)) (fun i => N (fr + i)) (mn - 1) : Nat) : Int) else N j := fun j hj => by
                rw [eN2]
                by_cases e : j = fr + k
                · subst e; rw [up1_s, if_pos (by omega)]
                · rw [up1_n _ e, d6 j hj]
                  by_cases g : fr ≤ j ∧ j < fr + k
                  · rw [if_pos g, if_pos (by omega)]
                  · rw [if_neg g, if_neg (by omega)]
              refine sy_iinc (lv1 := [(4, .int (iI ((k + 1 : Nat) : Int))), (0, .ref (ad 0)), (1, .int (iI ((fr : Nat) : Int))), (2, .int (iI ((mn : Nat) : Int))), (3, .int (iI 119))]) X d_M_shrink_65 hl 4 rfl (by omega) (by decide) rfl (fun ls hl => ?_)
              refine sy_goto (tgt := 46) X d_M_shrink_68 (by decide) ?_
              exact ih_key2 (k + 1) M2 N2 H locs ls (by omega) (by omega) e1.1 (d4.tr e1.2) (by rw [eN2, up1_n _ (by omega)]; exact d5) (fun j hj => hN2 j hj) hw (lv_sub hl [1, 2, 3, 4, 0] rfl)
        exact key2 (mn + 1) 0 M1 N1 H locs ls (by omega) (by omega) f3 f4 (by rw [f5, show k = mn - 1 by omega]) (fun j hj => by rw [if_neg (by omega)]; exact f6 j hj) hw (lv_sub hl [1, 2, 3, 4, 0] rfl)
      · refine sy_aload_n X d_M_shrink_24 hl 0 rfl ?_
        refine sy_iload_n X d_M_shrink_25 hl 3 rfl ?_
        refine sy_iload_n X d_M_shrink_26 hl 1 rfl ?_
        refine sy_iload X d_M_shrink_27 hl 4 rfl ?_
        refine sy_iadd X d_M_shrink_29 ?_
        refine sy_bipush X d_M_shrink_30 (by decide) ?_
        refine sy_bipush X d_M_shrink_32 (by decide) ?_
        refine call_Vv (Xs := []) (b := ad 0) (As := [.int (iI 119), .int (iI (((fr : Nat) : Int) + ((k : Nat) : Int))), .int (iI 118), .int (iI 117)]) (rest := []) X lk_M_84 (c_M_common l D cs ad M1 N1 119 (fr + k) 118 117 (by decide) (by omega) (by decide) (by decide) (by decide) (by decide) (by decide) (by omega) f3) ⟨by decide, by decide⟩ rcv_M hw rfl hl.1 (Nat.le_of_ble_eq_true rfl) d_M_shrink_34 rfl rfl ⟨Nat.zero_le _, Nat.zero_le _⟩ (fun M2 H locs p2 hw => ?_)
        obtain ⟨N2, c1, c2, c3, c4⟩ := p2
        refine sy_iinc (lv1 := [(4, .int (iI ((k + 1 : Nat) : Int))), (0, .ref (ad 0)), (1, .int (iI ((fr : Nat) : Int))), (2, .int (iI ((mn : Nat) : Int))), (3, .int (iI 119))]) X d_M_shrink_37 hl 4 rfl (by omega) (by decide) rfl (fun ls hl => ?_)
        refine sy_goto (tgt := 16) X d_M_shrink_40 (by decide) ?_
        exact ih_key1 (k + 1) M2 N2 H locs ls (by omega) (by omega) c1 (f4.tr c2) (by rw [c3, f5, f6 _ (by omega)]; simp [gF, Int.gcd]) (fun j hj => by rw [c4 j (by omega) (by omega) (by omega)]; exact f6 j hj) hw (lv_sub hl [1, 2, 3, 4, 0] rfl)
  obtain ⟨B1, eB1⟩ : ∃ g, g = up1 N 119 (N (fr + mn - 1)) := ⟨_, rfl⟩
  rw [← eB1] at p1
  exact key1 mn 0 A1 B1 H locs ls (by omega) (by omega) p1.1 p1.2.1 (by rw [eB1, up1_s]; simp only [gF]; omega) (fun j hj => by rw [eB1, up1_n _ (by omega)]) hw (lv_sub hl [2, 3, 4, 1, 0] rfl)
set_option maxRecDepth 100000 in
set_option maxHeartbeats 4000000 in
theorem c_M_keep (l : Launch) (D : va_G) (cs : Nat → ClassId) (ad : Nat → Nat) (M : Nat → Nat → Int) (N : Nat → Int) (to fr : Nat) (h1 : to + 6 ≤ 120) (h2 : fr + 6 ≤ 120) (h3 : to + 6 ≤ fr ∨ fr + 6 ≤ to) (hR : Rep M N) : Ct (S := Nat → Nat → Int) l D (tyL cs) y_M_keep b_M_keep 4 none (rm 2) [.ref (ad 0), .int (iI ((to : Nat) : Int)), .int (iI ((fr : Nat) : Int))] (wM ad cs M) (fun M1 => ∃ N1, Rep M1 N1 ∧ Sm M M1 ∧ ∀ j, N1 j = if to ≤ j ∧ j < to + 6 then N (fr + (j - to)) else N j) (fun _ => none) (fun M1 => wM ad cs M1) := by
  refine Ct.introV (by decide) (Nat.le_of_ble_eq_true rfl) (fun _ => rfl) ?_
  intro p e s m below meth c A args Q H locs X hnm hw kr ls hl
  have X : CX D (tyL cs) R_M b_M_keep 4 p m c s args := X
  have hl : lv_has ls 4 [(0, .ref (ad 0)), (1, .int (iI ((to : Nat) : Int))), (2, .int (iI ((fr : Nat) : Int)))] := hl
  refine sy_iconst X d_M_keep_0 ?_
  refine sy_istore_n (lv1 := [(3, .int (iI 0)), (0, .ref (ad 0)), (1, .int (iI ((to : Nat) : Int))), (2, .int (iI ((fr : Nat) : Int)))]) X d_M_keep_1 hl rfl (by decide) rfl (fun ls hl => ?_)
  have key : ∀ (n : Nat) (k : Nat) (M1 : Nat → Nat → Int) (N1 : Nat → Int) (H : Heap) (locs : List Loc) (ls : Array Slot), k ≤ 6 → 6 < k + n → Rep M1 N1 → Sm M M1 → (∀ j, N1 j = if to ≤ j ∧ j < to + k then N (fr + (j - to)) else N j) → HW D A s.heap (wM ad cs M1) H locs → lv_has ls 4 [(0, .ref (ad 0)), (1, .int (iI ((to : Nat) : Int))), (2, .int (iI ((fr : Nat) : Int))), (3, .int (iI ((k : Nat) : Int)))] → W p l e (rm 2) s m args below meth c H locs 0 0 Q (F0 m 2 ls []) := by
    intro n
    induction n with
    | zero =>
      intro k M1 N1 H locs ls f1 f2 f3 f4 f5 hw hl
      exfalso; omega
    | succ n ih_key =>
      intro k M1 N1 H locs ls f1 f2 f3 f4 f5 hw hl
      refine sy_iload_n X d_M_keep_2 hl 3 rfl ?_
      refine sy_bipush X d_M_keep_3 (by decide) ?_
      refine sy_icmp_ge (tgt := 24) X d_M_keep_5 (by decide) ⟨by omega, by omega⟩ ⟨by omega, by omega⟩ (fun c1 => ?_) (fun c1 => ?_)
      · exact kr _ _ _ _ _ d_M_keep_24 hw ⟨N1, f3, f4, fun j => by rw [f5, show k = 6 by omega]⟩
      · refine sy_aload_n X d_M_keep_8 hl 0 rfl ?_
        refine sy_iload_n X d_M_keep_9 hl 1 rfl ?_
        refine sy_iload_n X d_M_keep_10 hl 3 rfl ?_
        refine sy_iadd X d_M_keep_11 ?_
        refine sy_iload_n X d_M_keep_12 hl 2 rfl ?_
        refine sy_iload_n X d_M_keep_13 hl 3 rfl ?_
        refine sy_iadd X d_M_keep_14 ?_
        refine call_Vv (Xs := []) (b := ad 0) (As := [.int (iI (((to : Nat) : Int) + ((k : Nat) : Int))), .int (iI (((fr : Nat) : Int) + ((k : Nat) : Int)))]) (rest := []) X lk_M_78 (c_M_copy l D cs ad M1 N1 (to + k) (fr + k) (by omega) (by omega) f3) ⟨by decide, by decide⟩ rcv_M hw rfl hl.1 (Nat.le_of_ble_eq_true rfl) d_M_keep_15 rfl rfl ⟨Nat.zero_le _, Nat.zero_le _⟩ (fun M2 H locs e1 hw => ?_)
        have hN2 : ∀ j, up1 N1 (to + k) (N1 (fr + k)) j = if to ≤ j ∧ j < to + (k + 1) then N (fr + (j - to)) else N j := fun j => by
          by_cases e : j = to + k
          · rw [e, up1_s, f5, if_neg (by omega), if_pos (by omega)]; congr 1; omega
          · rw [up1_n _ e, f5]
            by_cases g : to ≤ j ∧ j < to + k
            · rw [if_pos g, if_pos (by omega)]
            · rw [if_neg g, if_neg (by omega)]
        refine sy_iinc (lv1 := [(3, .int (iI ((k + 1 : Nat) : Int))), (0, .ref (ad 0)), (1, .int (iI ((to : Nat) : Int))), (2, .int (iI ((fr : Nat) : Int)))]) X d_M_keep_18 hl 3 rfl (by omega) (by decide) rfl (fun ls hl => ?_)
        refine sy_goto (tgt := 2) X d_M_keep_21 (by decide) ?_
        exact ih_key (k + 1) M2 _ H locs ls (by omega) (by omega) e1.1 (f4.tr e1.2.1) hN2 hw (lv_sub hl [1, 2, 3, 0] rfl)
  exact key 7 0 M N H locs ls (by omega) (by omega) hR (Sm.rf M) (fun j => by rw [if_neg (by omega)]) hw (lv_sub hl [1, 2, 3, 0] rfl)
