set_option maxRecDepth 100000 in
set_option maxHeartbeats 4000000 in
theorem c_M_put (l : Launch) (D : va_G) (cs : Nat → ClassId) (ad : Nat → Nat) (M : Nat → Nat → Int) (N : Nat → Int) (z : Nat) (v : Int) (hz : z < 120) (hv : R31 v) (hR : Rep M N) : Ct (S := Nat → Nat → Int) l D (tyL cs) y_M_put b_M_put 5 none (rm 1) [.ref (ad 0), .int (iI ((z : Nat) : Int)), .int (iI v)] (wM ad cs M) (fun M1 => Rep M1 (up1 N z v) ∧ Sm M M1) (fun _ => none) (fun M1 => wM ad cs M1) := by
  refine Ct.introV (by decide) (Nat.le_of_ble_eq_true rfl) (fun _ => rfl) ?_
  intro p e s m below meth c A args Q H locs X hnm hw kr ls hl
  have X : CX D (tyL cs) R_M b_M_put 5 p m c s args := X
  have hl : lv_has ls 5 [(0, .ref (ad 0)), (1, .int (iI ((z : Nat) : Int))), (2, .int (iI v))] := hl
  have hv1 := hv.1
  have hv2 := hv.2
  have km1 : ∀ (H : Heap) (locs : List Loc), HW D A s.heap (wM ad cs M) H locs → W p l e (rm 1) s m args below meth c H locs 0 0 Q (F0 m 12 ls [.long (jI (v.natAbs : Int))]) := by
    intro H locs hw
    refine sy_lstore_n (lv1 := [(3, .long (jI (v.natAbs : Int))), (0, .ref (ad 0)), (1, .int (iI ((z : Nat) : Int))), (2, .int (iI v))]) X d_M_put_12 hl rfl (by decide) rfl (fun ls hl => ?_)
    refine sy_aload_n X d_M_put_13 hl 1 rfl ?_
    refine m_get X hw 2 (by decide) rfl (tt_of k511 rfl) d_M_put_14 ?_
    refine sy_iload_n X d_M_put_17 hl 2 rfl ?_
    have km2 : ∀ (H : Heap) (locs : List Loc), HW D A s.heap (wM ad cs M) H locs → W p l e (rm 1) s m args below meth c H locs 0 0 Q (F0 m 35 ls [.int (iI v.sign), .int (iI ((z : Nat) : Int)), .ref (ad 3)]) := by
      intro H locs hw
      refine m_ast X hw 3 z (by decide) (by omega) (by simp only [szM]; omega) d_M_put_35 (fun H locs hw => ?_)
      refine sy_aload_n X d_M_put_36 hl 1 rfl ?_
      refine m_get X hw 1 (by decide) rfl (tt_of k510 rfl) d_M_put_37 ?_
      refine sy_iload_n X d_M_put_40 hl 2 rfl ?_
      refine sy_iconst X d_M_put_41 ?_
      refine m_ast X hw 2 z (by decide) (by omega) (by simp only [szM]; omega) d_M_put_42 (fun H locs hw => ?_)
      have key : ∀ (n : Nat) (u : Nat) (H : Heap) (locs : List Loc) (ls : Array Slot), u ≤ 2 → 2 < u + n → (u = 0 ∨ 0 < (v.natAbs : Int) / 65536 ^ (u - 1)) → HW D A s.heap (wM ad cs (upA (up2 (up2 M 3 z v.sign) 2 z (u : Int)) 1 (blk (M 1) (110 * z) u (fun k => (v.natAbs : Int) / 65536 ^ k % 65536)))) H locs → lv_has ls 5 [(0, .ref (ad 0)), (1, .int (iI ((z : Nat) : Int))), (2, .int (iI v)), (3, .long (jI ((v.natAbs : Int) / 65536 ^ u)))] → W p l e (rm 1) s m args below meth c H locs 0 0 Q (F0 m 43 ls []) := by
        intro n
        induction n with
        | zero =>
          intro u H locs ls h1 h2 h3 hw hl
          exfalso; omega
        | succ n ih_key =>
          intro u H locs ls h1 h2 h3 hw hl
          have hx0 : (0 : Int) ≤ (v.natAbs : Int) / 65536 ^ u := Int.ediv_nonneg (by omega) (Int.le_of_lt (B_pos u))
          have hx1 : (v.natAbs : Int) / 65536 ^ u ≤ 2147483648 := Int.le_trans (Int.ediv_le_self _ (by omega)) (by omega)
          refine sy_lload_n X d_M_put_43 hl 3 rfl ?_
          refine sy_lconst (z := 0) X d_M_put_44 (by decide) ?_
          refine sy_lcif_le (tgt := 89) X d_M_put_45 d_M_put_46 (by decide) ⟨by omega, by omega⟩ ⟨by omega, by omega⟩ (fun c3 => ?_) (fun c3 => ?_)
          · refine kr _ _ _ _ _ d_M_put_89 hw ⟨Rep.up hR (fun j hj => ?_) (fun y hy => ?_) (fun y hy => ?_) (Rp.put (u := u) (by omega) (fun k hk => ?_) ?_ ?_ ?_ h3), ⟨rfl, rfl, rfl, rfl⟩⟩
            · rw [upA_s]; exact blk_out (by omega)
            · simp [upA, up2, up1, hy]
            · simp [upA, up2, up1, hy]
            · rw [upA_s]; exact blk_in hk
            · simp [upA, up2, up1]
            · simp [upA, up2, up1]
            · omega
          · have hu2 : u < 2 := by
              rcases Nat.lt_or_ge u 2 with g | g
              · exact g
              · have e : u = 2 := by omega
                subst e; exfalso; omega
            have c99 : 0 < (v.natAbs : Int) / 65536 ^ u := by omega
            have hU : (upA (up2 (up2 M 3 z v.sign) 2 z (u : Int)) 1 (blk (M 1) (110 * z) u (fun k => (v.natAbs : Int) / 65536 ^ k % 65536))) 2 z = (u : Int) := by simp [upA, up2_s]
            refine sy_aload_n X d_M_put_49 hl 0 rfl ?_
            refine m_get X hw 0 (by decide) rfl (tt_of k509 rfl) d_M_put_50 ?_
            refine sy_bipush X d_M_put_53 (by decide) ?_
            refine sy_iload_n X d_M_put_55 hl 1 rfl ?_
            refine sy_imul X d_M_put_56 ?_
            refine sy_aload_n X d_M_put_57 hl 0 rfl ?_
            refine m_get X hw 1 (by decide) rfl (tt_of k510 rfl) d_M_put_58 ?_
            refine sy_iload_n X d_M_put_61 hl 1 rfl ?_
            refine m_ald X hw 2 z (by decide) (by omega) (by simp only [szM]; omega) ((upA (up2 (up2 M 3 z v.sign) 2 z (u : Int)) 1 (blk (M 1) (110 * z) u (fun k => (v.natAbs : Int) / 65536 ^ k % 65536))) 2 z) rfl d_M_put_62 ?_
            refine sy_iadd X d_M_put_63 ?_
            refine sy_lload_n X d_M_put_64 hl 3 rfl ?_
            refine sy_ldc2 (z := 65535) X (tt_of k500 rfl) d_M_put_65 (by decide) ?_
            refine sy_land X 16 65536 d_M_put_68 (by decide) (by decide) (by decide) ?_
            refine sy_l2i X d_M_put_69 ?_
            refine m_ast X hw 1 (110 * z + u) (by decide) (by rw [hU]; omega) (by simp only [szM]; omega) d_M_put_70 (fun H locs hw => ?_)
            refine sy_aload_n X d_M_put_71 hl 0 rfl ?_
            refine m_get X hw 1 (by decide) rfl (tt_of k510 rfl) d_M_put_72 ?_
            refine sy_iload_n X d_M_put_75 hl 1 rfl ?_
            refine sy_dup2 X d_M_put_76 rfl rfl ?_
            refine m_ald X hw 2 z (by decide) (by omega) (by simp only [szM]; omega) ((up2 (upA (up2 (up2 M 3 z v.sign) 2 z (u : Int)) 1 (blk (M 1) (110 * z) u (fun k => (v.natAbs : Int) / 65536 ^ k % 65536))) 1 (110 * z + u) (((v.natAbs : Int) / 65536 ^ u) % 65536)) 2 z) rfl d_M_put_77 ?_
            refine sy_iconst X d_M_put_78 ?_
            refine sy_iadd X d_M_put_79 ?_
            refine m_ast X hw 2 z (by decide) (by omega) (by simp only [szM]; omega) d_M_put_80 (fun H locs hw => ?_)
            refine sy_lload_n X d_M_put_81 hl 3 rfl ?_
            refine sy_bipush X d_M_put_82 (by decide) ?_
            refine sy_lshr X 65536 d_M_put_84 ⟨by omega, by omega⟩ (by omega) (by omega) (by decide) ?_
            refine sy_lstore_n (lv1 := [(3, .long (jI (((v.natAbs : Int) / 65536 ^ u) / 65536))), (0, .ref (ad 0)), (1, .int (iI ((z : Nat) : Int))), (2, .int (iI v))]) X d_M_put_85 hl rfl (by decide) rfl (fun ls hl => ?_)
            have eW : up2 (up2 (upA (up2 (up2 M 3 z v.sign) 2 z (u : Int)) 1 (blk (M 1) (110 * z) u (fun k => (v.natAbs : Int) / 65536 ^ k % 65536))) 1 (110 * z + u) (((v.natAbs : Int) / 65536 ^ u) % 65536)) 2 z (((up2 (upA (up2 (up2 M 3 z v.sign) 2 z (u : Int)) 1 (blk (M 1) (110 * z) u (fun k => (v.natAbs : Int) / 65536 ^ k % 65536))) 1 (110 * z + u) (((v.natAbs : Int) / 65536 ^ u) % 65536)) 2 z) + 1) = upA (up2 (up2 M 3 z v.sign) 2 z ((u + 1 : Nat) : Int)) 1 (blk (M 1) (110 * z) (u + 1) (fun k => (v.natAbs : Int) / 65536 ^ k % 65536)) := by
              have e7 : up2 (upA (up2 (up2 M 3 z v.sign) 2 z (u : Int)) 1 (blk (M 1) (110 * z) u (fun k => (v.natAbs : Int) / 65536 ^ k % 65536))) 1 (110 * z + u) ((v.natAbs : Int) / 65536 ^ u % 65536) = upA (up2 (up2 M 3 z v.sign) 2 z (u : Int)) 1 (blk (M 1) (110 * z) (u + 1) (fun k => (v.natAbs : Int) / 65536 ^ k % 65536)) := by
                rw [up2_upA, blk_up (M 1) (110 * z) u (fun k => (v.natAbs : Int) / 65536 ^ k % 65536) (x := (v.natAbs : Int) / 65536 ^ u % 65536) rfl]
              rw [e7]
              funext a; by_cases h : a = 1
              · subst h; simp [upA, up2]
              · by_cases h2 : a = 2
                · subst h2; funext b; by_cases h3 : b = z <;> simp [upA, up2, up1, h3]
                · simp [upA, up2, h, h2]
            have eX : (v.natAbs : Int) / 65536 ^ u / 65536 = (v.natAbs : Int) / 65536 ^ (u + 1) := by
              rw [B_succ, ← Int.ediv_ediv_of_nonneg (Int.le_of_lt (B_pos u))]
            refine sy_goto (tgt := 43) X d_M_put_86 (by decide) ?_
            rw [eW] at hw
            rw [eX] at hl
            exact ih_key (u + 1) H locs ls (by omega) (by omega) (Or.inr (by simpa using c99)) hw (lv_sub hl [1, 2, 3, 0] rfl)
      have e0 : up2 (up2 M 3 z v.sign) 2 z 0 = upA (up2 (up2 M 3 z v.sign) 2 z ((0 : Nat) : Int)) 1 (blk (M 1) (110 * z) 0 (fun k => (v.natAbs : Int) / 65536 ^ k % 65536)) := by
          rw [blk_0]; funext a; by_cases h : a = 1 <;> simp [upA, h, up2]
      rw [e0] at hw
      have e1 : (v.natAbs : Int) = (v.natAbs : Int) / 65536 ^ 0 := by simp
      rw [e1] at hl
      exact key 3 0 H locs ls (by omega) (by omega) (Or.inl rfl) hw (lv_sub hl [1, 2, 3, 0] rfl)
    refine sy_iload_n X d_M_put_18 hl 3 rfl ?_
    refine sy_if_ge (tgt := 26) X d_M_put_19 (by decide) ⟨by omega, by omega⟩ (fun c4 => ?_) (fun c4 => ?_)
    · refine sy_iload_n X d_M_put_26 hl 3 rfl ?_
      refine sy_if_le (tgt := 34) X d_M_put_27 (by decide) ⟨by omega, by omega⟩ (fun c5 => ?_) (fun c5 => ?_)
      · refine sy_iconst X d_M_put_34 ?_
        exact W_topi (by first | exact sgn_neg (by omega) | exact sgn_pos (by omega) | exact sgn_0 (by omega)) (km2 H locs hw)
      · refine sy_iconst X d_M_put_30 ?_
        refine sy_goto (tgt := 35) X d_M_put_31 (by decide) ?_
        exact W_topi (by first | exact sgn_neg (by omega) | exact sgn_pos (by omega) | exact sgn_0 (by omega)) (km2 H locs hw)
    · refine sy_iconst X d_M_put_22 ?_
      refine sy_goto (tgt := 35) X d_M_put_23 (by decide) ?_
      exact W_topi (by first | exact sgn_neg (by omega) | exact sgn_pos (by omega) | exact sgn_0 (by omega)) (km2 H locs hw)
  refine sy_iload_n X d_M_put_0 hl 2 rfl ?_
  refine sy_if_ge (tgt := 10) X d_M_put_1 (by decide) ⟨by omega, by omega⟩ (fun c6 => ?_) (fun c6 => ?_)
  · refine sy_iload_n X d_M_put_10 hl 2 rfl ?_
    refine sy_i2l X d_M_put_11 ⟨by omega, by omega⟩ ?_
    exact W_topl (by omega) (km1 H locs hw)
  · refine sy_iload_n X d_M_put_4 hl 2 rfl ?_
    refine sy_i2l X d_M_put_5 ⟨by omega, by omega⟩ ?_
    refine sy_lneg X d_M_put_6 ?_
    refine sy_goto (tgt := 12) X d_M_put_7 (by decide) ?_
    exact W_topl (by omega) (km1 H locs hw)
set_option maxRecDepth 100000 in
set_option maxHeartbeats 4000000 in
theorem c_M_copy (l : Launch) (D : va_G) (cs : Nat → ClassId) (ad : Nat → Nat) (M : Nat → Nat → Int) (N : Nat → Int) (z x : Nat) (hz : z < 120) (hx : x < 120) (hR : Rep M N) : Ct (S := Nat → Nat → Int) l D (tyL cs) y_M_copy b_M_copy 4 none (rm 1) [.ref (ad 0), .int (iI ((z : Nat) : Int)), .int (iI ((x : Nat) : Int))] (wM ad cs M) (fun M1 => Rep M1 (up1 N z (N x)) ∧ Sm M M1 ∧ M1 4 = M 4 ∧ M1 5 = M 5) (fun _ => none) (fun M1 => wM ad cs M1) := by
  refine Ct.introV (by decide) (Nat.le_of_ble_eq_true rfl) (fun _ => rfl) ?_
  intro p e s m below meth c A args Q H locs X hnm hw kr ls hl
  have X : CX D (tyL cs) R_M b_M_copy 4 p m c s args := X
  have hl : lv_has ls 4 [(0, .ref (ad 0)), (1, .int (iI ((z : Nat) : Int))), (2, .int (iI ((x : Nat) : Int)))] := hl
  obtain ⟨u, hu, hu1, hd, hv, ht, hs⟩ := hR x hx
  refine sy_aload_n X d_M_copy_0 hl 0 rfl ?_
  refine m_get X hw 1 (by decide) rfl (tt_of k510 rfl) d_M_copy_1 ?_
  refine sy_iload_n X d_M_copy_4 hl 1 rfl ?_
  refine sy_aload_n X d_M_copy_5 hl 0 rfl ?_
  refine m_get X hw 1 (by decide) rfl (tt_of k510 rfl) d_M_copy_6 ?_
  refine sy_iload_n X d_M_copy_9 hl 2 rfl ?_
  refine m_ald X hw 2 x (by decide) (by omega) (by simp only [szM]; omega) (M 2 x) rfl d_M_copy_10 ?_
  refine m_ast X hw 2 z (by decide) (by omega) (by simp only [szM]; omega) d_M_copy_11 (fun H locs hw => ?_)
  refine sy_aload_n X d_M_copy_12 hl 0 rfl ?_
  refine m_get X hw 2 (by decide) rfl (tt_of k511 rfl) d_M_copy_13 ?_
  refine sy_iload_n X d_M_copy_16 hl 1 rfl ?_
  refine sy_aload_n X d_M_copy_17 hl 0 rfl ?_
  refine m_get X hw 2 (by decide) rfl (tt_of k511 rfl) d_M_copy_18 ?_
  refine sy_iload_n X d_M_copy_21 hl 2 rfl ?_
  refine m_ald X hw 3 x (by decide) (by omega) (by simp only [szM]; omega) ((up2 M 2 z (M 2 x)) 3 x) rfl d_M_copy_22 ?_
  refine m_ast X hw 3 z (by decide) (by omega) (by simp only [szM]; omega) d_M_copy_23 (fun H locs hw => ?_)
  refine sy_iconst X d_M_copy_24 ?_
  refine sy_istore_n (lv1 := [(3, .int (iI 0)), (0, .ref (ad 0)), (1, .int (iI ((z : Nat) : Int))), (2, .int (iI ((x : Nat) : Int)))]) X d_M_copy_25 hl rfl (by decide) rfl (fun ls hl => ?_)
  have key : ∀ (n : Nat) (k : Nat) (H : Heap) (locs : List Loc) (ls : Array Slot), k ≤ u → u < k + n → HW D A s.heap (wM ad cs (upA (up2 (up2 M 2 z (M 2 x)) 3 z ((up2 M 2 z (M 2 x)) 3 x)) 1 (blk (M 1) (110 * z) k (fun j => M 1 (110 * x + j))))) H locs → lv_has ls 4 [(0, .ref (ad 0)), (1, .int (iI ((z : Nat) : Int))), (2, .int (iI ((x : Nat) : Int))), (3, .int (iI ((k : Nat) : Int)))] → W p l e (rm 1) s m args below meth c H locs 0 0 Q (F0 m 26 ls []) := by
    intro n
    induction n with
    | zero =>
      intro k H locs ls h1 h2 hw hl
      exfalso; omega
    | succ n ih_key =>
      intro k H locs ls h1 h2 hw hl
      have hU : (upA (up2 (up2 M 2 z (M 2 x)) 3 z ((up2 M 2 z (M 2 x)) 3 x)) 1 (blk (M 1) (110 * z) k (fun j => M 1 (110 * x + j)))) 2 x = (u : Int) := by by_cases e : x = z <;> simp [upA, up2, up1, e] <;> (first | exact hu | (rw [← e]; exact hu) | (rw [e] at hu; exact hu))
      refine sy_iload_n X d_M_copy_26 hl 3 rfl ?_
      refine sy_aload_n X d_M_copy_27 hl 0 rfl ?_
      refine m_get X hw 1 (by decide) rfl (tt_of k510 rfl) d_M_copy_28 ?_
      refine sy_iload_n X d_M_copy_31 hl 2 rfl ?_
      refine m_ald X hw 2 x (by decide) (by omega) (by simp only [szM]; omega) ((upA (up2 (up2 M 2 z (M 2 x)) 3 z ((up2 M 2 z (M 2 x)) 3 x)) 1 (blk (M 1) (110 * z) k (fun j => M 1 (110 * x + j)))) 2 x) rfl d_M_copy_32 ?_
      refine sy_icmp_ge (tgt := 64) X d_M_copy_33 (by decide) ⟨by omega, by omega⟩ (by rw [hU]; exact ⟨by omega, by omega⟩) (fun c1 => ?_) (fun c1 => ?_)
      · have hk : k = u := by rw [hU] at c1; omega
        subst hk
        refine kr _ _ _ _ _ d_M_copy_64 hw ⟨Rep.up hR (fun j hj => ?_) (fun y hy => ?_) (fun y hy => ?_) ⟨k, ?_, hu1, fun j hj => ?_, ?_, ?_, ?_⟩, ⟨rfl, rfl, rfl, rfl⟩, rfl, rfl⟩
        · rw [upA_s]; exact blk_out (by omega)
        · simp [upA, up2, up1, hy]
        · simp [upA, up2, up1, hy]
        · simp [upA, up2, up1]; exact hu
        · show 0 ≤ (upA (up2 (up2 M 2 z (M 2 x)) 3 z ((up2 M 2 z (M 2 x)) 3 x)) 1 (blk (M 1) (110 * z) k (fun j => M 1 (110 * x + j)))) 1 (110 * z + j) ∧ (upA (up2 (up2 M 2 z (M 2 x)) 3 z ((up2 M 2 z (M 2 x)) 3 x)) 1 (blk (M 1) (110 * z) k (fun j => M 1 (110 * x + j)))) 1 (110 * z + j) < 65536
          rw [upA_s, blk_in hj]; exact hd j hj
        · rw [← hv]; exact vl_congr (fun j hj => by rw [upA_s, blk_in hj])
        · rcases ht with ht | ht
          · exact Or.inl ht
          · by_cases e0 : k = 0
            · exact Or.inl e0
            · right; rw [upA_s, blk_in (by omega)]; exact ht
        · simp [upA, up2, up1]; exact hs
      · have hk : k < u := by rw [hU] at c1; omega
        refine sy_aload_n X d_M_copy_36 hl 0 rfl ?_
        refine m_get X hw 0 (by decide) rfl (tt_of k509 rfl) d_M_copy_37 ?_
        refine sy_bipush X d_M_copy_40 (by decide) ?_
        refine sy_iload_n X d_M_copy_42 hl 1 rfl ?_
        refine sy_imul X d_M_copy_43 ?_
        refine sy_iload_n X d_M_copy_44 hl 3 rfl ?_
        refine sy_iadd X d_M_copy_45 ?_
        refine sy_aload_n X d_M_copy_46 hl 0 rfl ?_
        refine m_get X hw 0 (by decide) rfl (tt_of k509 rfl) d_M_copy_47 ?_
        refine sy_bipush X d_M_copy_50 (by decide) ?_
        refine sy_iload_n X d_M_copy_52 hl 2 rfl ?_
        refine sy_imul X d_M_copy_53 ?_
        refine sy_iload_n X d_M_copy_54 hl 3 rfl ?_
        refine sy_iadd X d_M_copy_55 ?_
        refine m_ald X hw 1 ((110 * x) + k) (by decide) (by omega) (by simp only [szM]; omega) ((upA (up2 (up2 M 2 z (M 2 x)) 3 z ((up2 M 2 z (M 2 x)) 3 x)) 1 (blk (M 1) (110 * z) k (fun j => M 1 (110 * x + j)))) 1 ((110 * x) + k)) rfl d_M_copy_56 ?_
        refine m_ast X hw 1 ((110 * z) + k) (by decide) (by omega) (by simp only [szM]; omega) d_M_copy_57 (fun H locs hw => ?_)
        have eW : up2 (upA (up2 (up2 M 2 z (M 2 x)) 3 z ((up2 M 2 z (M 2 x)) 3 x)) 1 (blk (M 1) (110 * z) k (fun j => M 1 (110 * x + j)))) 1 ((110 * z) + k) ((upA (up2 (up2 M 2 z (M 2 x)) 3 z ((up2 M 2 z (M 2 x)) 3 x)) 1 (blk (M 1) (110 * z) k (fun j => M 1 (110 * x + j)))) 1 ((110 * x) + k)) = upA (up2 (up2 M 2 z (M 2 x)) 3 z ((up2 M 2 z (M 2 x)) 3 x)) 1 (blk (M 1) (110 * z) (k + 1) (fun j => M 1 (110 * x + j))) := by
          rw [up2_upA, blk_up (M 1) (110 * z) k (fun j => M 1 (110 * x + j))]
          rw [upA_s]
          by_cases e : x = z
          · subst e; exact blk_out (by omega)
          · exact blk_out (by omega)
        refine sy_iinc (lv1 := [(3, .int (iI ((k + 1 : Nat) : Int))), (0, .ref (ad 0)), (1, .int (iI ((z : Nat) : Int))), (2, .int (iI ((x : Nat) : Int)))]) X d_M_copy_58 hl 3 rfl (by omega) (by decide) rfl (fun ls hl => ?_)
        refine sy_goto (tgt := 26) X d_M_copy_61 (by decide) ?_
        rw [eW] at hw
        exact ih_key (k + 1) H locs ls (by omega) (by omega) hw (lv_sub hl [1, 2, 3, 0] rfl)
  have e0 : up2 (up2 M 2 z (M 2 x)) 3 z ((up2 M 2 z (M 2 x)) 3 x) = upA (up2 (up2 M 2 z (M 2 x)) 3 z ((up2 M 2 z (M 2 x)) 3 x)) 1 (blk (M 1) (110 * z) 0 (fun j => M 1 (110 * x + j))) := by
    rw [blk_0]; funext a; by_cases h : a = 1 <;> simp [upA, h, up2]
  rw [e0] at hw
  exact key (u + 1) 0 H locs ls (by omega) (by omega) hw (lv_sub hl [1, 2, 3, 0] rfl)
set_option maxRecDepth 100000 in
set_option maxHeartbeats 4000000 in
theorem c_M_store (l : Launch) (D : va_G) (cs : Nat → ClassId) (ad : Nat → Nat) (M : Nat → Nat → Int) (N : Nat → Int) (z n0 : Nat) (s0 : Int) (hz : z < 120) (hn0 : n0 ≤ 224) (hs31 : R31 s0) (hR : Rep M N) (hd : Dg (M 4) n0) (hb : vl (M 4) n0 < 65536 ^ 110) (hs0 : s0 = 1 ∨ s0 = -1 ∨ vl (M 4) n0 = 0) : Ct (S := Nat → Nat → Int) l D (tyL cs) y_M_store b_M_store 6 none (rm 1) [.ref (ad 0), .int (iI ((z : Nat) : Int)), .int (iI ((n0 : Nat) : Int)), .int (iI s0)] (wM ad cs M) (fun M1 => Rep M1 (up1 N z (s0 * vl (M 4) n0)) ∧ Sm M M1 ∧ M1 4 = M 4 ∧ M1 5 = M 5) (fun _ => none) (fun M1 => wM ad cs M1) := by
  refine Ct.introV (by decide) (Nat.le_of_ble_eq_true rfl) (fun _ => rfl) ?_
  intro p e s m below meth c A args Q H locs X hnm hw kr ls hl
  have X : CX D (tyL cs) R_M b_M_store 6 p m c s args := X
  have hl : lv_has ls 6 [(0, .ref (ad 0)), (1, .int (iI ((z : Nat) : Int))), (2, .int (iI ((n0 : Nat) : Int))), (3, .int (iI s0))] := hl
  have k26 : ∀ (q : Nat) (H : Heap) (locs : List Loc) (ls : Array Slot), q ≤ n0 → vl (M 4) q = vl (M 4) n0 → (q = 0 ∨ M 4 (q - 1) ≠ 0) → HW D A s.heap (wM ad cs M) H locs → lv_has ls 6 [(0, .ref (ad 0)), (1, .int (iI ((z : Nat) : Int))), (2, .int (iI ((n0 : Nat) : Int))), (3, .int (iI s0)), (4, .int (iI ((q : Nat) : Int)))] → W p l e (rm 1) s m args below meth c H locs 0 0 Q (F0 m 26 ls []) := by
    intro q H locs ls hqn hvq htq hw hl
    have hq110 : q ≤ 110 := by
      rcases htq with h | h
      · omega
      · rcases Nat.lt_or_ge 110 q with g | g
        · obtain ⟨t, rfl⟩ : ∃ t, q = t + 1 := ⟨q - 1, by omega⟩
          have h1 := vl_top (hd.le hqn) h
          have h2 := B_le (show 110 ≤ t by omega)
          omega
        · exact g
    refine sy_aload_n X d_M_store_26 hl 0 rfl ?_
    refine m_get X hw 1 (by decide) rfl (tt_of k510 rfl) d_M_store_27 ?_
    refine sy_iload_n X d_M_store_30 hl 1 rfl ?_
    refine sy_iload X d_M_store_31 hl 4 rfl ?_
    refine m_ast X hw 2 z (by decide) (by omega) (by simp only [szM]; omega) d_M_store_33 (fun H locs hw => ?_)
    refine sy_aload_n X d_M_store_34 hl 0 rfl ?_
    refine m_get X hw 2 (by decide) rfl (tt_of k511 rfl) d_M_store_35 ?_
    refine sy_iload_n X d_M_store_38 hl 1 rfl ?_
    have km1 : ∀ (H : Heap) (locs : List Loc), HW D A s.heap (wM ad cs (up2 M 2 z ((q : Nat) : Int))) H locs → W p l e (rm 1) s m args below meth c H locs 0 0 Q (F0 m 49 ls [.int (iI (if q = 0 then 0 else s0)), .int (iI ((z : Nat) : Int)), .ref (ad 3)]) := by
      intro H locs hw
      refine m_ast X hw 3 z (by decide) (by omega) (by simp only [szM]; omega) d_M_store_49 (fun H locs hw => ?_)
      refine sy_iconst X d_M_store_50 ?_
      refine sy_istore (lv1 := [(5, .int (iI 0)), (0, .ref (ad 0)), (1, .int (iI ((z : Nat) : Int))), (2, .int (iI ((n0 : Nat) : Int))), (3, .int (iI s0)), (4, .int (iI ((q : Nat) : Int)))]) X d_M_store_51 hl (by decide) rfl (fun ls hl => ?_)
      have key2 : ∀ (n : Nat) (k : Nat) (H : Heap) (locs : List Loc) (ls : Array Slot), k ≤ q → q < k + n → HW D A s.heap (wM ad cs (upA (up2 (up2 M 2 z (q : Int)) 3 z (if q = 0 then 0 else s0)) 1 (blk (M 1) (110 * z) k (M 4)))) H locs → lv_has ls 6 [(0, .ref (ad 0)), (1, .int (iI ((z : Nat) : Int))), (2, .int (iI ((n0 : Nat) : Int))), (3, .int (iI s0)), (4, .int (iI ((q : Nat) : Int))), (5, .int (iI ((k : Nat) : Int)))] → W p l e (rm 1) s m args below meth c H locs 0 0 Q (F0 m 53 ls []) := by
        intro n
        induction n with
        | zero =>
          intro k H locs ls h1 h2 hw hl
          exfalso; omega
        | succ n ih_key2 =>
          intro k H locs ls h1 h2 hw hl
          refine sy_iload X d_M_store_53 hl 5 rfl ?_
          refine sy_iload X d_M_store_55 hl 4 rfl ?_
          refine sy_icmp_ge (tgt := 85) X d_M_store_57 (by decide) ⟨by omega, by omega⟩ ⟨by omega, by omega⟩ (fun c2 => ?_) (fun c2 => ?_)
          · have hk : k = q := by omega
            subst hk
            refine kr _ _ _ _ _ d_M_store_85 hw ⟨?_, ⟨rfl, rfl, rfl, rfl⟩, rfl, rfl⟩
            rw [← hvq]
            refine Rep.up hR (fun j hj => ?_) (fun y hy => ?_) (fun y hy => ?_) (Rp.store (u := k) (f := M 4) hq110 (hd.le (by omega)) (fun j hj => ?_) ?_ rfl htq ?_ (by rw [hvq]; exact hs0))
            · rw [upA_s]; exact blk_out (by omega)
            · simp [upA, up2, up1, hy]
            · simp [upA, up2, up1, hy]
            · rw [upA_s]; exact blk_in hj
            · simp [upA, up2, up1]
            · simp [upA, up2, up1]
          · refine sy_aload_n X d_M_store_60 hl 0 rfl ?_
            refine m_get X hw 0 (by decide) rfl (tt_of k509 rfl) d_M_store_61 ?_
            refine sy_bipush X d_M_store_64 (by decide) ?_
            refine sy_iload_n X d_M_store_66 hl 1 rfl ?_
            refine sy_imul X d_M_store_67 ?_
            refine sy_iload X d_M_store_68 hl 5 rfl ?_
            refine sy_iadd X d_M_store_70 ?_
            refine sy_aload_n X d_M_store_71 hl 0 rfl ?_
            refine m_get X hw 3 (by decide) rfl (tt_of k512 rfl) d_M_store_72 ?_
            refine sy_iload X d_M_store_75 hl 5 rfl ?_
            refine m_ald X hw 4 k (by decide) (by omega) (by simp only [szM]; omega) ((upA (up2 (up2 M 2 z (q : Int)) 3 z (if q = 0 then 0 else s0)) 1 (blk (M 1) (110 * z) k (M 4))) 4 k) rfl d_M_store_77 ?_
            refine m_ast X hw 1 ((110 * z) + k) (by decide) (by omega) (by simp only [szM]; omega) d_M_store_78 (fun H locs hw => ?_)
            have eW : up2 (upA (up2 (up2 M 2 z (q : Int)) 3 z (if q = 0 then 0 else s0)) 1 (blk (M 1) (110 * z) k (M 4))) 1 ((110 * z) + k) ((upA (up2 (up2 M 2 z (q : Int)) 3 z (if q = 0 then 0 else s0)) 1 (blk (M 1) (110 * z) k (M 4))) 4 k) = upA (up2 (up2 M 2 z (q : Int)) 3 z (if q = 0 then 0 else s0)) 1 (blk (M 1) (110 * z) (k + 1) (M 4)) := by
              rw [up2_upA, blk_up (M 1) (110 * z) k (M 4)]
              rfl
            refine sy_iinc (lv1 := [(5, .int (iI ((k + 1 : Nat) : Int))), (0, .ref (ad 0)), (1, .int (iI ((z : Nat) : Int))), (2, .int (iI ((n0 : Nat) : Int))), (3, .int (iI s0)), (4, .int (iI ((q : Nat) : Int)))]) X d_M_store_79 hl 5 rfl (by omega) (by decide) rfl (fun ls hl => ?_)
            refine sy_goto (tgt := 53) X d_M_store_82 (by decide) ?_
            rw [eW] at hw
            exact ih_key2 (k + 1) H locs ls (by omega) (by omega) hw (lv_sub hl [1, 2, 3, 4, 5, 0] rfl)
      have e0 : up2 (up2 M 2 z (q : Int)) 3 z (if q = 0 then 0 else s0) = upA (up2 (up2 M 2 z (q : Int)) 3 z (if q = 0 then 0 else s0)) 1 (blk (M 1) (110 * z) 0 (M 4)) := by
        rw [blk_0]; funext a; by_cases h : a = 1 <;> simp [upA, h, up2]
      rw [e0] at hw
      exact key2 (q + 1) 0 H locs ls (by omega) (by omega) hw (lv_sub hl [1, 2, 3, 4, 5, 0] rfl)
    refine sy_iload X d_M_store_39 hl 4 rfl ?_
    refine sy_if_ne (tgt := 48) X d_M_store_41 (by decide) ⟨by omega, by omega⟩ (fun c3 => ?_) (fun c3 => ?_)
    · refine sy_iload_n X d_M_store_48 hl 3 rfl ?_
      exact W_topi (by split <;> omega) (km1 H locs hw)
    · refine sy_iconst X d_M_store_44 ?_
      refine sy_goto (tgt := 49) X d_M_store_45 (by decide) ?_
      exact W_topi (by split <;> omega) (km1 H locs hw)
  refine sy_iload_n X d_M_store_0 hl 2 rfl ?_
  refine sy_istore (lv1 := [(4, .int (iI ((n0 : Nat) : Int))), (0, .ref (ad 0)), (1, .int (iI ((z : Nat) : Int))), (2, .int (iI ((n0 : Nat) : Int))), (3, .int (iI s0))]) X d_M_store_1 hl (by decide) rfl (fun ls hl => ?_)
  have key1 : ∀ (n : Nat) (q : Nat) (H : Heap) (locs : List Loc) (ls : Array Slot), q ≤ n0 → q < n → vl (M 4) q = vl (M 4) n0 → HW D A s.heap (wM ad cs M) H locs → lv_has ls 6 [(0, .ref (ad 0)), (1, .int (iI ((z : Nat) : Int))), (2, .int (iI ((n0 : Nat) : Int))), (3, .int (iI s0)), (4, .int (iI ((q : Nat) : Int)))] → W p l e (rm 1) s m args below meth c H locs 0 0 Q (F0 m 3 ls []) := by
    intro n
    induction n with
    | zero =>
      intro q H locs ls hqn h2 hvq hw hl
      exfalso; omega
    | succ n ih_key1 =>
      intro q H locs ls hqn h2 hvq hw hl
      refine sy_iload X d_M_store_3 hl 4 rfl ?_
      refine sy_if_le (tgt := 26) X d_M_store_5 (by decide) ⟨by omega, by omega⟩ (fun c4 => ?_) (fun c4 => ?_)
      · exact k26 q H locs ls (by omega) hvq (by first | exact Or.inl (by omega) | exact Or.inr (by assumption)) hw (lv_sub hl [0, 1, 2, 3, 4] rfl)
      · refine sy_aload_n X d_M_store_8 hl 0 rfl ?_
        refine m_get X hw 3 (by decide) rfl (tt_of k512 rfl) d_M_store_9 ?_
        refine sy_iload X d_M_store_12 hl 4 rfl ?_
        refine sy_iconst X d_M_store_14 ?_
        refine sy_isub X d_M_store_15 ?_
        refine m_ald X hw 4 (q - 1) (by decide) (by omega) (by simp only [szM]; omega) (M 4 (q - 1)) rfl d_M_store_16 ?_
        have hdq := hd (q - 1) (by omega)
        refine sy_if_ne (tgt := 26) X d_M_store_17 (by decide) ⟨by omega, by omega⟩ (fun c5 => ?_) (fun c5 => ?_)
        · exact k26 q H locs ls (by omega) hvq (by first | exact Or.inl (by omega) | exact Or.inr (by assumption)) hw (lv_sub hl [0, 1, 2, 3, 4] rfl)
        · have hvq1 : vl (M 4) (q - 1) = vl (M 4) n0 := by
            rw [← hvq]
            obtain ⟨t, rfl⟩ : ∃ t, q = t + 1 := ⟨q - 1, by omega⟩
            have c' : M 4 t = 0 := by assumption
            simp only [vl, Nat.add_sub_cancel, c']; omega
          refine sy_iinc (lv1 := [(4, .int (iI (((q : Nat) : Int) + (-1)))), (0, .ref (ad 0)), (1, .int (iI ((z : Nat) : Int))), (2, .int (iI ((n0 : Nat) : Int))), (3, .int (iI s0))]) X d_M_store_20 hl 4 rfl (by omega) (by decide) rfl (fun ls hl => ?_)
          refine sy_goto (tgt := 3) X d_M_store_23 (by decide) ?_
          rw [show (q : Int) + -1 = ((q - 1 : Nat) : Int) by omega] at hl
          exact ih_key1 (q - 1) H locs ls (by omega) (by omega) hvq1 hw (lv_sub hl [1, 2, 3, 4, 0] rfl)
  exact key1 (n0 + 1) n0 H locs ls (by omega) (by omega) rfl hw (lv_sub hl [1, 2, 3, 4, 0] rfl)
