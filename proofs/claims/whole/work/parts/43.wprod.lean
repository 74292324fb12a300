theorem up1_up1 (z : Nat → Int) (a : Nat) (x y : Int) : up1 (up1 z a x) a y = up1 z a y := by
  funext j; by_cases h : j = a <;> simp [up1, h]
theorem ap_step {i j : Nat} {VR VR0 cy rk x : Int} {Y : Int} (h : VR + cy * 4294967296 ^ (i + j) = VR0 + x * low Y j * 4294967296 ^ i) : (VR + ((rk + x * lim Y j + cy) % 4294967296 - rk) * 4294967296 ^ (i + j)) + (rk + x * lim Y j + cy) / 4294967296 * 4294967296 ^ (i + (j + 1)) = VR0 + x * low Y (j + 1) * 4294967296 ^ i := by
  have := lmul_step (c := rk + x * lim Y j + cy) (rk := rk) (d := x * lim Y j) (by omega) h
  rw [← Nat.add_assoc, P_succ, this, low_succ, Int.pow_add]; grind
theorem low_add_mul {z t : Int} {n : Nat} : low (z + t * 4294967296 ^ n) n = low z n := low_eq rfl
theorem low_cong {a b : Int} {n : Nat} (h : low a n = low b n) : ∃ t, a = b + t * 4294967296 ^ n := by
  unfold low at h
  have e1 := Int.emod_add_mul_ediv a (4294967296 ^ n)
  have e2 := Int.emod_add_mul_ediv b (4294967296 ^ n)
  refine ⟨a / 4294967296 ^ n - b / 4294967296 ^ n, ?_⟩
  rw [h] at e1
  generalize a / 4294967296 ^ n = q at *
  generalize b / 4294967296 ^ n = q2 at *
  generalize b % 4294967296 ^ n = r at *
  generalize (4294967296 : Int) ^ n = P at *
  grind
theorem ap_out {i : Nat} {VR VR0 cy ZA XB XC : Int} (hi : i < 5) (h : VR + cy * 4294967296 ^ 5 = VR0 + lim XB i * low XC (5 - i) * 4294967296 ^ i) (h0 : low VR0 5 = low (ZA + low XB i * XC) 5) : low VR 5 = low (ZA + low XB (i + 1) * XC) 5 := by
  obtain ⟨t, ht⟩ := low_cong h0
  have e2 : low XC (5 - i) = XC - 4294967296 ^ (5 - i) * (XC / 4294967296 ^ (5 - i)) := by have e := Int.emod_add_mul_ediv XC (4294967296 ^ (5 - i)); unfold low; omega
  have e5 : (4294967296 : Int) ^ 5 = 4294967296 ^ (5 - i) * 4294967296 ^ i := by rw [← Int.pow_add]; congr 1; omega
  refine low_eq (t := t - cy - lim XB i * (XC / 4294967296 ^ (5 - i))) ?_
  rw [low_succ]
  rw [e2] at h
  generalize XC / 4294967296 ^ (5 - i) = q at *
  rw [ht] at h
  rw [e5] at h ⊢
  generalize (4294967296 : Int) ^ (5 - i) = P at *
  generalize (4294967296 : Int) ^ i = P2 at *
  generalize lim XB i = x at *
  generalize low XB i = lo at *
  grind
theorem ap_fin {f : Nat → Int} {ZA XB XC : Int} (hb : Lb f 5) (h : low (vL f 5) 5 = low (ZA + low XB 5 * XC) 5) : ∀ j, j < 5 → f j = lim (ZA + XB * XC) j := by
  refine lim_fin hb (h.trans ?_)
  have e2 : low XB 5 = XB - 4294967296 ^ 5 * (XB / 4294967296 ^ 5) := by have e := Int.emod_add_mul_ediv XB (4294967296 ^ 5); unfold low; omega
  refine low_eq (t := -(XB / 4294967296 ^ 5) * XC) ?_
  rw [e2]
  generalize XB / 4294967296 ^ 5 = q at *
  generalize (4294967296 : Int) ^ 5 = P at *
  grind
set_option maxRecDepth 100000 in
set_option maxHeartbeats 4000000 in
theorem c_W_scale (l : Launch) (D : va_G) (cs : Nat → ClassId) (ad : Nat → Nat → Nat) (z : Nat → Int) (a : Nat) (fac : Int) (ha : a < 121) (hf : R31 fac) : Ct (S := Unit) l D (tyL cs) y_W_scale b_W_scale 2 none (rm 2) [.ref (ad 0 a), .int (iI fac)] (wZ ad cs z) (fun _ => True) (fun _ => none) (fun _ => wZ ad cs (up1 z a (z a * fac))) := by
  refine Ct.introV (by decide) (Nat.le_of_ble_eq_true rfl) (fun _ => rfl) ?_
  intro p e s m below meth c A args Q H locs X hnm hw kr ls hl
  have X : CX D (tyL cs) R_W b_W_scale 2 p m c s args := X
  have hl : lv_has ls 2 [(0, .ref (ad 0 a)), (1, .int (iI fac))] := hl
  refine sy_aload_n X d_W_scale_0 hl 0 rfl ?_
  refine sy_aload_n X d_W_scale_1 hl 0 rfl ?_
  refine sy_iload_n X d_W_scale_2 hl 1 rfl ?_
  refine call_Vv (Xs := []) (b := ad 0 a) (As := [.ref (ad 0 a), .int (iI fac)]) (rest := []) X lk_W_15 (c_W_setTimes l D cs ad z a a fac ha ha hf) ⟨by decide, by decide⟩ (rcv_W ha) hw rfl hl.1 (Nat.le_of_ble_eq_true rfl) d_W_scale_3 rfl rfl ⟨Nat.zero_le _, Nat.zero_le _⟩ (fun _ H locs _ hw => ?_)
  exact kr () _ _ _ _ d_W_scale_6 hw trivial
set_option maxRecDepth 100000 in
set_option maxHeartbeats 4000000 in
theorem c_W_addSum (l : Launch) (D : va_G) (cs : Nat → ClassId) (ad : Nat → Nat → Nat) (z : Nat → Int) (a b : Nat) (f1 : Int) (c0 : Nat) (f2 : Int) (ha : a < 121) (hb : b < 121) (hc : c0 < 121) (hca : c0 ≠ a) (hf1 : R31 f1) (hf2 : R31 f2) : Ct (S := Unit) l D (tyL cs) y_W_addSum b_W_addSum 5 none (rm 2) [.ref (ad 0 a), .ref (ad 0 b), .int (iI f1), .ref (ad 0 c0), .int (iI f2)] (wZ ad cs z) (fun _ => True) (fun _ => none) (fun _ => wZ ad cs (up1 z a (z a + z b * f1 + z c0 * f2))) := by
  refine Ct.introV (by decide) (Nat.le_of_ble_eq_true rfl) (fun _ => rfl) ?_
  intro p e s m below meth c A args Q H locs X hnm hw kr ls hl
  have X : CX D (tyL cs) R_W b_W_addSum 5 p m c s args := X
  have hl : lv_has ls 5 [(0, .ref (ad 0 a)), (1, .ref (ad 0 b)), (2, .int (iI f1)), (3, .ref (ad 0 c0)), (4, .int (iI f2))] := hl
  refine sy_aload_n X d_W_addSum_0 hl 0 rfl ?_
  refine sy_aload_n X d_W_addSum_1 hl 1 rfl ?_
  refine sy_iload_n X d_W_addSum_2 hl 2 rfl ?_
  refine call_Vv (Xs := []) (b := ad 0 a) (As := [.ref (ad 0 b), .int (iI f1)]) (rest := []) X lk_W_19 (c_W_addTimes l D cs ad z a b f1 ha hb hf1) ⟨by decide, by decide⟩ (rcv_W ha) hw rfl hl.1 (Nat.le_of_ble_eq_true rfl) d_W_addSum_3 rfl rfl ⟨Nat.zero_le _, Nat.zero_le _⟩ (fun _ H locs _ hw => ?_)
  refine sy_aload_n X d_W_addSum_6 hl 0 rfl ?_
  refine sy_aload_n X d_W_addSum_7 hl 3 rfl ?_
  refine sy_iload X d_W_addSum_8 hl 4 rfl ?_
  refine call_Vv (Xs := []) (b := ad 0 a) (As := [.ref (ad 0 c0), .int (iI f2)]) (rest := []) X lk_W_19 (c_W_addTimes l D cs ad (up1 z a (z a + z b * f1)) a c0 f2 ha hc hf2) ⟨by decide, by decide⟩ (rcv_W ha) hw rfl hl.1 (Nat.le_of_ble_eq_true rfl) d_W_addSum_10 rfl rfl ⟨Nat.zero_le _, Nat.zero_le _⟩ (fun _ H locs _ hw => ?_)
  simp only [up1_s, up1_n _ hca, up1_up1] at hw
  exact kr () _ _ _ _ d_W_addSum_13 hw trivial
set_option maxRecDepth 100000 in
set_option maxHeartbeats 4000000 in
theorem c_W_setSum (l : Launch) (D : va_G) (cs : Nat → ClassId) (ad : Nat → Nat → Nat) (z : Nat → Int) (a b : Nat) (f1 : Int) (c0 : Nat) (f2 : Int) (d0 : Nat) (f3 : Int) (ha : a < 121) (hb : b < 121) (hc : c0 < 121) (hd0 : d0 < 121) (hca : c0 ≠ a) (hda : d0 ≠ a) (hf1 : R31 f1) (hf2 : R31 f2) (hf3 : R31 f3) : Ct (S := Unit) l D (tyL cs) y_W_setSum b_W_setSum 7 none (rm 2) [.ref (ad 0 a), .ref (ad 0 b), .int (iI f1), .ref (ad 0 c0), .int (iI f2), .ref (ad 0 d0), .int (iI f3)] (wZ ad cs z) (fun _ => True) (fun _ => none) (fun _ => wZ ad cs (up1 z a (z b * f1 + z c0 * f2 + z d0 * f3))) := by
  refine Ct.introV (by decide) (Nat.le_of_ble_eq_true rfl) (fun _ => rfl) ?_
  intro p e s m below meth c A args Q H locs X hnm hw kr ls hl
  have X : CX D (tyL cs) R_W b_W_setSum 7 p m c s args := X
  have hl : lv_has ls 7 [(0, .ref (ad 0 a)), (1, .ref (ad 0 b)), (2, .int (iI f1)), (3, .ref (ad 0 c0)), (4, .int (iI f2)), (5, .ref (ad 0 d0)), (6, .int (iI f3))] := hl
  refine sy_aload_n X d_W_setSum_0 hl 0 rfl ?_
  refine sy_aload_n X d_W_setSum_1 hl 1 rfl ?_
  refine sy_iload_n X d_W_setSum_2 hl 2 rfl ?_
  refine call_Vv (Xs := []) (b := ad 0 a) (As := [.ref (ad 0 b), .int (iI f1)]) (rest := []) X lk_W_15 (c_W_setTimes l D cs ad z a b f1 ha hb hf1) ⟨by decide, by decide⟩ (rcv_W ha) hw rfl hl.1 (Nat.le_of_ble_eq_true rfl) d_W_setSum_3 rfl rfl ⟨Nat.zero_le _, Nat.zero_le _⟩ (fun _ H locs _ hw => ?_)
  refine sy_aload_n X d_W_setSum_6 hl 0 rfl ?_
  refine sy_aload_n X d_W_setSum_7 hl 3 rfl ?_
  refine sy_iload X d_W_setSum_8 hl 4 rfl ?_
  refine call_Vv (Xs := []) (b := ad 0 a) (As := [.ref (ad 0 c0), .int (iI f2)]) (rest := []) X lk_W_19 (c_W_addTimes l D cs ad (up1 z a (z b * f1)) a c0 f2 ha hc hf2) ⟨by decide, by decide⟩ (rcv_W ha) hw rfl hl.1 (Nat.le_of_ble_eq_true rfl) d_W_setSum_10 rfl rfl ⟨Nat.zero_le _, Nat.zero_le _⟩ (fun _ H locs _ hw => ?_)
  refine sy_aload_n X d_W_setSum_13 hl 0 rfl ?_
  refine sy_aload X d_W_setSum_14 hl 5 rfl ?_
  refine sy_iload X d_W_setSum_16 hl 6 rfl ?_
  simp only [up1_s, up1_n _ hca, up1_up1] at hw
  refine call_Vv (Xs := []) (b := ad 0 a) (As := [.ref (ad 0 d0), .int (iI f3)]) (rest := []) X lk_W_19 (c_W_addTimes l D cs ad (up1 z a (z b * f1 + z c0 * f2)) a d0 f3 ha hd0 hf3) ⟨by decide, by decide⟩ (rcv_W ha) hw rfl hl.1 (Nat.le_of_ble_eq_true rfl) d_W_setSum_18 rfl rfl ⟨Nat.zero_le _, Nat.zero_le _⟩ (fun _ H locs _ hw => ?_)
  simp only [up1_s, up1_n _ hda, up1_up1] at hw
  exact kr () _ _ _ _ d_W_setSum_21 hw trivial
set_option maxRecDepth 100000 in
set_option maxHeartbeats 4000000 in
theorem c_W_addProduct (l : Launch) (D : va_G) (cs : Nat → ClassId) (ad : Nat → Nat → Nat) (z : Nat → Int) (a b c0 : Nat) (ha : a < 121) (hb : b < 121) (hc : c0 < 121) (hba : b ≠ a) (hca : c0 ≠ a) : Ct (S := Unit) l D (tyL cs) y_W_addProduct b_W_addProduct 9 none (rm 1) [.ref (ad 0 a), .ref (ad 0 b), .ref (ad 0 c0)] (wZ ad cs z) (fun _ => True) (fun _ => none) (fun _ => wZ ad cs (up1 z a (z a + z b * z c0))) := by
  refine Ct.introV (by decide) (Nat.le_of_ble_eq_true rfl) (fun _ => rfl) ?_
  intro p e s m below meth c A args Q H locs X hnm hw kr ls hl
  have X : CX D (tyL cs) R_W b_W_addProduct 9 p m c s args := X
  have hl : lv_has ls 9 [(0, .ref (ad 0 a)), (1, .ref (ad 0 b)), (2, .ref (ad 0 c0))] := hl
  obtain ⟨V, hV⟩ : ∃ g : Nat → Nat → Int, g = fun k => lim (z k) := ⟨_, rfl⟩
  have hw : HW D A s.heap (wW ad cs V) H locs := by rw [hV]; exact hw
  have eV := upA_V hV a
  refine sy_iconst X d_W_addProduct_0 ?_
  refine sy_istore_n (lv1 := [(3, .int (iI 0)), (0, .ref (ad 0 a)), (1, .ref (ad 0 b)), (2, .ref (ad 0 c0))]) X d_W_addProduct_1 hl rfl (by decide) rfl (fun ls hl => ?_)
  have keyO : ∀ (n : Nat) (i : Nat) (f : Nat → Int) (H : Heap) (locs : List Loc) (ls : Array Slot), i ≤ 5 → 5 < i + n → Lb f 5 → low (vL f 5) 5 = low (z a + low (z b) i * z c0) 5 → HW D A s.heap (wW ad cs (upA V a f)) H locs → lv_has ls 9 [(0, .ref (ad 0 a)), (1, .ref (ad 0 b)), (2, .ref (ad 0 c0)), (3, .int (iI ((i : Nat) : Int)))] → W p l e (rm 1) s m args below meth c H locs 0 0 Q (F0 m 2 ls []) := by
    intro n
    induction n with
    | zero =>
      intro i f H locs ls g1 g2 g3 g4 hw hl
      exfalso; omega
    | succ n ih_keyO =>
      intro i f H locs ls g1 g2 g3 g4 hw hl
      refine sy_iload_n X d_W_addProduct_2 hl 3 rfl ?_
      refine sy_iconst X d_W_addProduct_3 ?_
      refine sy_icmp_ge (tgt := 84) X d_W_addProduct_4 (by decide) ⟨by omega, by omega⟩ ⟨by omega, by omega⟩ (fun c1 => ?_) (fun c1 => ?_)
      · have hi : i = 5 := by omega
        rw [hi] at g4
        exact kr () _ _ _ _ d_W_addProduct_84 (hw.fin hV (ap_fin g3 g4)) trivial
      · refine sy_lconst (z := 0) X d_W_addProduct_7 (by decide) ?_
        refine sy_lstore (lv1 := [(4, .long (jI 0)), (0, .ref (ad 0 a)), (1, .ref (ad 0 b)), (2, .ref (ad 0 c0)), (3, .int (iI ((i : Nat) : Int)))]) X d_W_addProduct_8 hl (by decide) rfl (fun ls hl => ?_)
        refine sy_iconst X d_W_addProduct_10 ?_
        refine sy_istore (lv1 := [(6, .int (iI 0)), (4, .long (jI 0)), (0, .ref (ad 0 a)), (1, .ref (ad 0 b)), (2, .ref (ad 0 c0)), (3, .int (iI ((i : Nat) : Int)))]) X d_W_addProduct_11 hl (by decide) rfl (fun ls hl => ?_)
        have keyI : ∀ (n : Nat) (j : Nat) (f1 : Nat → Int) (cy : Int) (H : Heap) (locs : List Loc) (ls : Array Slot), i + j ≤ 5 → 5 < i + j + n → Lb f1 5 → 0 ≤ cy ∧ cy < 4294967296 → vL f1 5 + cy * 4294967296 ^ (i + j) = vL f 5 + lim (z b) i * low (z c0) j * 4294967296 ^ i → HW D A s.heap (wW ad cs (upA V a f1)) H locs → lv_has ls 9 [(0, .ref (ad 0 a)), (1, .ref (ad 0 b)), (2, .ref (ad 0 c0)), (3, .int (iI ((i : Nat) : Int))), (4, .long (jI cy)), (6, .int (iI ((j : Nat) : Int)))] → W p l e (rm 1) s m args below meth c H locs 0 0 Q (F0 m 13 ls []) := by
          intro n
          induction n with
          | zero =>
            intro j f1 cy H locs ls h1 h2 h3 h4 h5 hw hl
            exfalso; omega
          | succ n ih_keyI =>
            intro j f1 cy H locs ls h1 h2 h3 h4 h5 hw hl
            refine sy_iload_n X d_W_addProduct_13 hl 3 rfl ?_
            refine sy_iload X d_W_addProduct_14 hl 5 rfl ?_
            refine sy_iadd X d_W_addProduct_16 ?_
            refine sy_iconst X d_W_addProduct_17 ?_
            refine sy_icmp_ge (tgt := 78) X d_W_addProduct_18 (by decide) ⟨by omega, by omega⟩ ⟨by omega, by omega⟩ (fun c2 => ?_) (fun c2 => ?_)
            · refine sy_iinc (lv1 := [(3, .int (iI ((i + 1 : Nat) : Int))), (0, .ref (ad 0 a)), (1, .ref (ad 0 b)), (2, .ref (ad 0 c0)), (4, .long (jI cy)), (6, .int (iI ((j : Nat) : Int)))]) X d_W_addProduct_78 hl 3 rfl (by omega) (by decide) rfl (fun ls hl => ?_)
              refine sy_goto (tgt := 2) X d_W_addProduct_81 (by decide) ?_
              exact ih_keyO (i + 1) f1 H locs ls (by omega) (by omega) h3 (ap_out (by omega) (by rw [show i + j = 5 by omega] at h5; rw [show 5 - i = j by omega]; exact h5) g4) hw (lv_sub hl [1, 2, 3, 0] rfl)
            · have hlx := lim_rng (z b) i
              have hly := lim_rng (z c0) j
              have hlf := h3 (i + j) (by omega)
              have hpr : 0 ≤ lim (z b) i * lim (z c0) j ∧ lim (z b) i * lim (z c0) j ≤ 4294967295 * 4294967295 := ⟨Int.mul_nonneg hlx.1 hly.1, Int.mul_le_mul (by omega) (by omega) hly.1 (by decide)⟩
              refine sy_aload_n X d_W_addProduct_21 hl 0 rfl ?_
              refine w_get X hw ha (tt_of k110 rfl) d_W_addProduct_22 ?_
              refine sy_iload_n X d_W_addProduct_25 hl 3 rfl ?_
              refine sy_iload X d_W_addProduct_26 hl 5 rfl ?_
              refine sy_iadd X d_W_addProduct_28 ?_
              refine w_ald X hw a (i + j) ha (by omega) (by omega) (f1 (i + j)) (by rw [upA_s]) d_W_addProduct_29 ?_
              refine sy_aload_n X d_W_addProduct_30 hl 1 rfl ?_
              refine w_get X hw hb (tt_of k110 rfl) d_W_addProduct_31 ?_
              refine sy_iload_n X d_W_addProduct_34 hl 3 rfl ?_
              refine w_ald X hw b i hb (by omega) (by omega) (lim (z b) i) (by rw [upA_n _ hba, hV]) d_W_addProduct_35 ?_
              refine sy_aload_n X d_W_addProduct_36 hl 2 rfl ?_
              refine w_get X hw hc (tt_of k110 rfl) d_W_addProduct_37 ?_
              refine sy_iload X d_W_addProduct_40 hl 5 rfl ?_
              refine w_ald X hw c0 j hc (by omega) (by omega) (lim (z c0) j) (by rw [upA_n _ hca, hV]) d_W_addProduct_42 ?_
              refine sy_lmul X d_W_addProduct_43 ?_
              refine sy_ladd X d_W_addProduct_44 ?_
              refine sy_lload X d_W_addProduct_45 hl 4 rfl ?_
              refine sy_ladd X d_W_addProduct_47 ?_
              refine sy_lstore (lv1 := [(7, .long (jI (((f1 (i + j)) + ((lim (z b) i) * (lim (z c0) j))) + cy))), (0, .ref (ad 0 a)), (1, .ref (ad 0 b)), (2, .ref (ad 0 c0)), (3, .int (iI ((i : Nat) : Int))), (4, .long (jI cy)), (6, .int (iI ((j : Nat) : Int)))]) X d_W_addProduct_48 hl (by decide) rfl (fun ls hl => ?_)
              refine sy_aload_n X d_W_addProduct_50 hl 1 rfl ?_
              refine w_get X hw ha (tt_of k110 rfl) d_W_addProduct_51 ?_
              refine sy_iload_n X d_W_addProduct_54 hl 4 rfl ?_
              refine sy_iload X d_W_addProduct_55 hl 6 rfl ?_
              refine sy_iadd X d_W_addProduct_57 ?_
              refine sy_lload X d_W_addProduct_58 hl 0 rfl ?_
              refine sy_ldc2 (z := 4294967295) X (tt_of k197 rfl) d_W_addProduct_60 (by decide) ?_
              refine sy_land X 32 4294967296 d_W_addProduct_63 (by decide) (by decide) (by decide) ?_
              refine w_ast X hw a (i + j) ha (by omega) (by omega) d_W_addProduct_64 (fun H locs hw => ?_)
              rw [upA_s, upA_A] at hw
              obtain ⟨f2, ef2⟩ : ∃ g, g = up1 f1 (i + j) ((((f1 (i + j)) + ((lim (z b) i) * (lim (z c0) j))) + cy) % 4294967296) := ⟨_, rfl⟩
              rw [← ef2] at hw
              refine sy_lload X d_W_addProduct_65 hl 0 rfl ?_
              refine sy_bipush X d_W_addProduct_67 (by decide) ?_
              refine sy_lushr X 4294967296 d_W_addProduct_69 (by omega) (by omega) (by decide) (by decide) (by decide) ?_
              refine sy_lstore (lv1 := [(4, .long (jI ((((f1 (i + j)) + ((lim (z b) i) * (lim (z c0) j))) + cy) / 4294967296))), (7, .long (jI (((f1 (i + j)) + ((lim (z b) i) * (lim (z c0) j))) + cy))), (0, .ref (ad 0 a)), (1, .ref (ad 0 b)), (2, .ref (ad 0 c0)), (3, .int (iI ((i : Nat) : Int))), (6, .int (iI ((j : Nat) : Int)))]) X d_W_addProduct_70 hl (by decide) rfl (fun ls hl => ?_)
              refine sy_iinc (lv1 := [(6, .int (iI ((j + 1 : Nat) : Int))), (4, .long (jI ((((f1 (i + j)) + ((lim (z b) i) * (lim (z c0) j))) + cy) / 4294967296))), (7, .long (jI (((f1 (i + j)) + ((lim (z b) i) * (lim (z c0) j))) + cy))), (0, .ref (ad 0 a)), (1, .ref (ad 0 b)), (2, .ref (ad 0 c0)), (3, .int (iI ((i : Nat) : Int)))]) X d_W_addProduct_72 hl 6 rfl (by omega) (by decide) rfl (fun ls hl => ?_)
              refine sy_goto (tgt := 13) X d_W_addProduct_75 (by decide) ?_
              exact ih_keyI (j + 1) f2 _ H locs ls (by omega) (by omega) (by rw [ef2]; exact lb_upd h3 (mq0 _).1 (mq0 _).2) ⟨by omega, by omega⟩ (by rw [ef2, vL_upd _ (by omega)]; exact ap_step h5) hw (lv_sub hl [3, 4, 5, 6, 1, 0] rfl)
        exact keyI 6 0 f 0 H locs ls (by omega) (by omega) g3 (by omega) (by rw [low_0]; simp) hw (lv_sub hl [2, 3, 4, 5, 1, 0] rfl)
  rw [eV] at hw
  exact keyO 6 0 (lim (z a)) H locs ls (by omega) (by omega) (fun k _ => lim_rng _ k) (by rw [vL_lim, low_low _ (Nat.le_refl 5), low_0]; simp) hw (lv_sub hl [1, 2, 3, 0] rfl)
set_option maxRecDepth 100000 in
set_option maxHeartbeats 4000000 in
theorem c_W_addProducts (l : Launch) (D : va_G) (cs : Nat → ClassId) (ad : Nat → Nat → Nat) (z : Nat → Int) (a : Nat) (b c0 d0 e0 : Nat) (ha : a < 121) (hb : b < 121) (hc : c0 < 121) (hd0 : d0 < 121) (he0 : e0 < 121) (hba : b ≠ a) (hca : c0 ≠ a) (hda : d0 ≠ a) (hea : e0 ≠ a) : Ct (S := Unit) l D (tyL cs) y_W_addProducts b_W_addProducts 5 none (rm 2) [.ref (ad 0 a), .ref (ad 0 b), .ref (ad 0 c0), .ref (ad 0 d0), .ref (ad 0 e0)] (wZ ad cs z) (fun _ => True) (fun _ => none) (fun _ => wZ ad cs (up1 z a (z a + z b * z c0 + z d0 * z e0))) := by
  refine Ct.introV (by decide) (Nat.le_of_ble_eq_true rfl) (fun _ => rfl) ?_
  intro p e s m below meth c A args Q H locs X hnm hw kr ls hl
  have X : CX D (tyL cs) R_W b_W_addProducts 5 p m c s args := X
  have hl : lv_has ls 5 [(0, .ref (ad 0 a)), (1, .ref (ad 0 b)), (2, .ref (ad 0 c0)), (3, .ref (ad 0 d0)), (4, .ref (ad 0 e0))] := hl
  refine sy_aload_n X d_W_addProducts_0 hl 0 rfl ?_
  refine sy_aload_n X d_W_addProducts_1 hl 1 rfl ?_
  refine sy_aload_n X d_W_addProducts_2 hl 2 rfl ?_
  refine call_Vv (Xs := []) (b := ad 0 a) (As := [.ref (ad 0 b), .ref (ad 0 c0)]) (rest := []) X lk_W_30 (c_W_addProduct l D cs ad z a b c0 ha hb hc hba hca) ⟨by decide, by decide⟩ (rcv_W ha) hw rfl hl.1 (Nat.le_of_ble_eq_true rfl) d_W_addProducts_3 rfl rfl ⟨Nat.zero_le _, Nat.zero_le _⟩ (fun _ H locs _ hw => ?_)
  refine sy_aload_n X d_W_addProducts_6 hl 0 rfl ?_
  refine sy_aload_n X d_W_addProducts_7 hl 3 rfl ?_
  refine sy_aload X d_W_addProducts_8 hl 4 rfl ?_
  refine call_Vv (Xs := []) (b := ad 0 a) (As := [.ref (ad 0 d0), .ref (ad 0 e0)]) (rest := []) X lk_W_30 (c_W_addProduct l D cs ad (up1 z a (z a + z b * z c0)) a d0 e0 ha hd0 he0 hda hea) ⟨by decide, by decide⟩ (rcv_W ha) hw rfl hl.1 (Nat.le_of_ble_eq_true rfl) d_W_addProducts_10 rfl rfl ⟨Nat.zero_le _, Nat.zero_le _⟩ (fun _ H locs _ hw => ?_)
  simp only [up1_s, up1_n _ hda, up1_n _ hea, up1_up1] at hw
  exact kr () _ _ _ _ d_W_addProducts_13 hw trivial
set_option maxRecDepth 100000 in
set_option maxHeartbeats 4000000 in
theorem c_W_setProducts (l : Launch) (D : va_G) (cs : Nat → ClassId) (ad : Nat → Nat → Nat) (z : Nat → Int) (a : Nat) (b c0 d0 e0 : Nat) (ha : a < 121) (hb : b < 121) (hc : c0 < 121) (hd0 : d0 < 121) (he0 : e0 < 121) (hba : b ≠ a) (hca : c0 ≠ a) (hda : d0 ≠ a) (hea : e0 ≠ a) : Ct (S := Unit) l D (tyL cs) y_W_setProducts b_W_setProducts 5 none (rm 3) [.ref (ad 0 a), .ref (ad 0 b), .ref (ad 0 c0), .ref (ad 0 d0), .ref (ad 0 e0)] (wZ ad cs z) (fun _ => True) (fun _ => none) (fun _ => wZ ad cs (up1 z a (z b * z c0 + z d0 * z e0))) := by
  refine Ct.introV (by decide) (Nat.le_of_ble_eq_true rfl) (fun _ => rfl) ?_
  intro p e s m below meth c A args Q H locs X hnm hw kr ls hl
  have X : CX D (tyL cs) R_W b_W_setProducts 5 p m c s args := X
  have hl : lv_has ls 5 [(0, .ref (ad 0 a)), (1, .ref (ad 0 b)), (2, .ref (ad 0 c0)), (3, .ref (ad 0 d0)), (4, .ref (ad 0 e0))] := hl
  refine sy_aload_n X d_W_setProducts_0 hl 0 rfl ?_
  refine sy_iconst X d_W_setProducts_1 ?_
  refine call_Vv (Xs := []) (b := ad 0 a) (As := [.int (iI 0)]) (rest := []) X lk_W_22 (c_W_set l D cs ad z a 0 ha ⟨by decide, by decide⟩) ⟨by decide, by decide⟩ (rcv_W ha) hw rfl hl.1 (Nat.le_of_ble_eq_true rfl) d_W_setProducts_2 rfl rfl ⟨Nat.zero_le _, Nat.zero_le _⟩ (fun _ H locs _ hw => ?_)
  refine sy_aload_n X d_W_setProducts_5 hl 0 rfl ?_
  refine sy_aload_n X d_W_setProducts_6 hl 1 rfl ?_
  refine sy_aload_n X d_W_setProducts_7 hl 2 rfl ?_
  refine sy_aload_n X d_W_setProducts_8 hl 3 rfl ?_
  refine sy_aload X d_W_setProducts_9 hl 4 rfl ?_
  refine call_Vv (Xs := []) (b := ad 0 a) (As := [.ref (ad 0 b), .ref (ad 0 c0), .ref (ad 0 d0), .ref (ad 0 e0)]) (rest := []) X lk_W_26 (c_W_addProducts l D cs ad (up1 z a 0) a b c0 d0 e0 ha hb hc hd0 he0 hba hca hda hea) ⟨by decide, by decide⟩ (rcv_W ha) hw rfl hl.1 (Nat.le_of_ble_eq_true rfl) d_W_setProducts_11 rfl rfl ⟨Nat.zero_le _, Nat.zero_le _⟩ (fun _ H locs _ hw => ?_)
  simp only [up1_s, up1_n _ hba, up1_n _ hca, up1_n _ hda, up1_n _ hea, up1_up1, Int.zero_add] at hw
  exact kr () _ _ _ _ d_W_setProducts_14 hw trivial
