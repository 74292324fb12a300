theorem upA_A (v : Nat → Nat → Int) (a : Nat) (f g : Nat → Int) : upA (upA v a f) a g = upA v a g := by
  funext b; by_cases h : b = a <;> simp [upA, h]
/-- the world behind a change of one whole number -/
theorem HW.fin {D : va_G} {A : Nat → Prop} {H0 H : Heap} {locs : List Loc} {ad : Nat → Nat → Nat} {cs : Nat → ClassId} {V : Nat → Nat → Int} {z : Nat → Int} {a : Nat} {f : Nat → Int} {Z : Int} (hV : V = fun k => lim (z k)) (hw : HW D A H0 (wW ad cs (upA V a f)) H locs) (hf : ∀ j, j < 5 → f j = lim Z j) : HW D A H0 (wZ ad cs (up1 z a Z)) H locs := by
  refine HW.ext0 hw (fun k _ j hj => ?_)
  by_cases e : k = a
  · subst e; rw [upA_s, up1_s]; exact hf j hj
  · rw [upA_n _ e, up1_n _ e, hV]
theorem upA_V {V : Nat → Nat → Int} {z : Nat → Int} (hV : V = fun k => lim (z k)) (a : Nat) : V = upA V a (lim (z a)) := by
  have : lim (z a) = V a := by rw [hV]
  rw [this, upA_self]
theorem rd_al {V : Nat → Nat → Int} {z : Nat → Int} {a b i : Nat} {f : Nat → Int} (hV : V = fun k => lim (z k)) (hf : ∀ j, i ≤ j → f j = lim (z a) j) : upA V a f b i = lim (z b) i := by
  by_cases e : b = a
  · subst e; rw [upA_s]; exact hf i (Nat.le_refl i)
  · rw [upA_n _ e, hV]
theorem al_up {f g : Nat → Int} {i : Nat} {x : Int} (h : ∀ j, i ≤ j → f j = g j) : ∀ j, i + 1 ≤ j → up1 f i x j = g j := fun j hj => by rw [up1_n _ (by omega)]; exact h j (by omega)
theorem st_step {VR cy X0 x fac P : Int} (h : VR + cy * P = X0 * fac) : (VR + (x * fac + cy) % 4294967296 * P) + (x * fac + cy) / 4294967296 * (P * 4294967296) = (X0 + x * P) * fac := by
  have := ladd_step (c := x * fac + cy) (d := x * fac) (by omega) h
  rw [this]; grind
theorem at_step {VR cy Y0 y X0 x fac P : Int} (h : VR + cy * P = Y0 + X0 * fac) : (VR + (y + x * fac + cy) % 4294967296 * P) + (y + x * fac + cy) / 4294967296 * (P * 4294967296) = (Y0 + y * P) + (X0 + x * P) * fac := by
  have := ladd_step (c := y + x * fac + cy) (d := y + x * fac) (by omega) h
  rw [this]; grind
theorem fin_st {f : Nat → Int} {cy X fac : Int} (hb : Lb f 5) (h : vL f 5 + cy * 4294967296 ^ 5 = low X 5 * fac) : ∀ j, j < 5 → f j = lim (X * fac) j := by
  refine lim_fin hb ?_
  have e := Int.emod_add_mul_ediv X (4294967296 ^ 5)
  have e2 : low X 5 = X - 4294967296 ^ 5 * (X / 4294967296 ^ 5) := by unfold low; omega
  refine low_eq (t := -(X / 4294967296 ^ 5 * fac) - cy) ?_
  rw [e2] at h
  generalize (4294967296 : Int) ^ 5 = P at *
  generalize X / P = q at *
  grind
theorem fin_at {f : Nat → Int} {cy X Y fac : Int} (hb : Lb f 5) (h : vL f 5 + cy * 4294967296 ^ 5 = low Y 5 + low X 5 * fac) : ∀ j, j < 5 → f j = lim (Y + X * fac) j := by
  refine lim_fin hb ?_
  have e2 : low X 5 = X - 4294967296 ^ 5 * (X / 4294967296 ^ 5) := by have e := Int.emod_add_mul_ediv X (4294967296 ^ 5); unfold low; omega
  have e3 : low Y 5 = Y - 4294967296 ^ 5 * (Y / 4294967296 ^ 5) := by have e := Int.emod_add_mul_ediv Y (4294967296 ^ 5); unfold low; omega
  refine low_eq (t := -(X / 4294967296 ^ 5 * fac) - (Y / 4294967296 ^ 5) - cy) ?_
  rw [e2, e3] at h
  generalize (4294967296 : Int) ^ 5 = P at *
  generalize X / P = q at *
  generalize Y / P = q2 at *
  grind
set_option maxRecDepth 100000 in
set_option maxHeartbeats 4000000 in
theorem c_W_set (l : Launch) (D : va_G) (cs : Nat → ClassId) (ad : Nat → Nat → Nat) (z : Nat → Int) (a : Nat) (x : Int) (ha : a < 121) (hx : R31 x) : Ct (S := Unit) l D (tyL cs) y_W_set b_W_set 5 none (rm 1) [.ref (ad 0 a), .int (iI x)] (wZ ad cs z) (fun _ => True) (fun _ => none) (fun _ => wZ ad cs (up1 z a x)) := by
  refine Ct.introV (by decide) (Nat.le_of_ble_eq_true rfl) (fun _ => rfl) ?_
  intro p e s m below meth c A args Q H locs X hnm hw kr ls hl
  have X : CX D (tyL cs) R_W b_W_set 5 p m c s args := X
  have hl : lv_has ls 5 [(0, .ref (ad 0 a)), (1, .int (iI x))] := hl
  obtain ⟨V, hV⟩ : ∃ g : Nat → Nat → Int, g = fun k => lim (z k) := ⟨_, rfl⟩
  have hw : HW D A s.heap (wW ad cs V) H locs := by rw [hV]; exact hw
  have hx1 := hx.1
  have hx2 := hx.2
  have eV := upA_V hV a
  refine sy_iload_n X d_W_set_0 hl 1 rfl ?_
  refine sy_i2l X d_W_set_1 hx ?_
  refine sy_lstore_n (lv1 := [(2, .long (jI x)), (0, .ref (ad 0 a)), (1, .int (iI x))]) X d_W_set_2 hl rfl (by decide) rfl (fun ls hl => ?_)
  refine sy_iconst X d_W_set_3 ?_
  refine sy_istore (lv1 := [(4, .int (iI 0)), (2, .long (jI x)), (0, .ref (ad 0 a)), (1, .int (iI x))]) X d_W_set_4 hl (by decide) rfl (fun ls hl => ?_)
  have key : ∀ (n : Nat) (i : Nat) (f : Nat → Int) (H : Heap) (locs : List Loc) (ls : Array Slot), i ≤ 5 → 5 < i + n → (∀ j, j < i → f j = lim x j) → HW D A s.heap (wW ad cs (upA V a f)) H locs → lv_has ls 5 [(0, .ref (ad 0 a)), (2, .long (jI (x / 4294967296 ^ i))), (4, .int (iI ((i : Nat) : Int)))] → W p l e (rm 1) s m args below meth c H locs 0 0 Q (F0 m 6 ls []) := by
    intro n
    induction n with
    | zero =>
      intro i f H locs ls h1 h2 h3 hw hl
      exfalso; omega
    | succ n ih_key =>
      intro i f H locs ls h1 h2 h3 hw hl
      have hR : R63 (x / 4294967296 ^ i) := by
        have hP := P_pos i
        refine ⟨?_, ?_⟩
        · have h := Int.mul_le_mul_of_nonpos_left (a := (-2147483648 : Int)) (by decide) (show (1 : Int) ≤ 4294967296 ^ i from hP)
          have : -2147483648 ≤ x / 4294967296 ^ i := (Int.le_ediv_iff_mul_le hP).mpr (by omega)
          omega
        · have h := Int.mul_le_mul_of_nonneg_left (show (1 : Int) ≤ 4294967296 ^ i from hP) (show (0 : Int) ≤ 2147483648 by decide)
          have : x / 4294967296 ^ i < 2147483648 := Int.ediv_lt_of_lt_mul hP (by omega)
          omega
      refine sy_iload X d_W_set_6 hl 2 rfl ?_
      refine sy_iconst X d_W_set_8 ?_
      refine sy_icmp_ge (tgt := 35) X d_W_set_9 (by decide) ⟨by omega, by omega⟩ ⟨by omega, by omega⟩ (fun c1 => ?_) (fun c1 => ?_)
      · exact kr () _ _ _ _ d_W_set_35 (hw.fin hV (fun j hj => h3 j (by omega))) trivial
      · refine sy_aload_n X d_W_set_12 hl 0 rfl ?_
        refine w_get X hw ha (tt_of k110 rfl) d_W_set_13 ?_
        refine sy_iload X d_W_set_16 hl 2 rfl ?_
        refine sy_lload_n X d_W_set_18 hl 1 rfl ?_
        refine sy_ldc2 (z := 4294967295) X (tt_of k197 rfl) d_W_set_19 (by decide) ?_
        refine sy_land X 32 4294967296 d_W_set_22 (by decide) (by decide) (by decide) ?_
        refine w_ast X hw a i ha (by omega) (by omega) d_W_set_23 (fun H locs hw => ?_)
        rw [upA_s, upA_A] at hw
        obtain ⟨f1, ef1⟩ : ∃ g, g = up1 f i ((x / 4294967296 ^ i) % 4294967296) := ⟨_, rfl⟩
        rw [← ef1] at hw
        refine sy_lload_n X d_W_set_24 hl 1 rfl ?_
        refine sy_bipush X d_W_set_25 (by decide) ?_
        refine sy_lshr X 4294967296 d_W_set_27 hR (by omega) (by omega) (by decide) ?_
        refine sy_lstore_n (lv1 := [(2, .long (jI ((x / 4294967296 ^ i) / 4294967296))), (0, .ref (ad 0 a)), (4, .int (iI ((i : Nat) : Int)))]) X d_W_set_28 hl rfl (by decide) rfl (fun ls hl => ?_)
        refine sy_iinc (lv1 := [(4, .int (iI ((i + 1 : Nat) : Int))), (2, .long (jI ((x / 4294967296 ^ i) / 4294967296))), (0, .ref (ad 0 a))]) X d_W_set_29 hl 2 rfl (by omega) (by decide) rfl (fun ls hl => ?_)
        refine sy_goto (tgt := 6) X d_W_set_32 (by decide) ?_
        have e2 : x / 4294967296 ^ i / 4294967296 = x / 4294967296 ^ (i + 1) := by rw [P_succ, ← Int.ediv_ediv_of_nonneg (Int.le_of_lt (P_pos i))]
        rw [e2] at hl
        exact ih_key (i + 1) f1 H locs ls (by omega) (by omega) (by rw [ef1]; exact eq_up h3 rfl) hw (lv_sub hl [2, 1, 0] rfl)
  rw [eV] at hw
  have e1 : jI x = jI (x / 4294967296 ^ 0) := by simp
  rw [e1] at hl
  exact key 6 0 (lim (z a)) H locs ls (by omega) (by omega) (fun j hj => by omega) hw (lv_sub hl [2, 1, 0] rfl)
set_option maxRecDepth 100000 in
set_option maxHeartbeats 4000000 in
theorem c_W_copy (l : Launch) (D : va_G) (cs : Nat → ClassId) (ad : Nat → Nat → Nat) (z : Nat → Int) (a b : Nat) (ha : a < 121) (hb : b < 121) : Ct (S := Unit) l D (tyL cs) y_W_copy b_W_copy 3 none (rm 1) [.ref (ad 0 a), .ref (ad 0 b)] (wZ ad cs z) (fun _ => True) (fun _ => none) (fun _ => wZ ad cs (up1 z a (z b))) := by
  refine Ct.introV (by decide) (Nat.le_of_ble_eq_true rfl) (fun _ => rfl) ?_
  intro p e s m below meth c A args Q H locs X hnm hw kr ls hl
  have X : CX D (tyL cs) R_W b_W_copy 3 p m c s args := X
  have hl : lv_has ls 3 [(0, .ref (ad 0 a)), (1, .ref (ad 0 b))] := hl
  obtain ⟨V, hV⟩ : ∃ g : Nat → Nat → Int, g = fun k => lim (z k) := ⟨_, rfl⟩
  have hw : HW D A s.heap (wW ad cs V) H locs := by rw [hV]; exact hw
  have eV := upA_V hV a
  refine sy_iconst X d_W_copy_0 ?_
  refine sy_istore_n (lv1 := [(2, .int (iI 0)), (0, .ref (ad 0 a)), (1, .ref (ad 0 b))]) X d_W_copy_1 hl rfl (by decide) rfl (fun ls hl => ?_)
  have key : ∀ (n : Nat) (i : Nat) (f : Nat → Int) (H : Heap) (locs : List Loc) (ls : Array Slot), i ≤ 5 → 5 < i + n → (∀ j, j < i → f j = lim (z b) j) → (∀ j, i ≤ j → f j = lim (z a) j) → HW D A s.heap (wW ad cs (upA V a f)) H locs → lv_has ls 3 [(0, .ref (ad 0 a)), (1, .ref (ad 0 b)), (2, .int (iI ((i : Nat) : Int)))] → W p l e (rm 1) s m args below meth c H locs 0 0 Q (F0 m 2 ls []) := by
    intro n
    induction n with
    | zero =>
      intro i f H locs ls h1 h2 h3 h4 hw hl
      exfalso; omega
    | succ n ih_key =>
      intro i f H locs ls h1 h2 h3 h4 hw hl
      refine sy_iload_n X d_W_copy_2 hl 2 rfl ?_
      refine sy_iconst X d_W_copy_3 ?_
      refine sy_icmp_ge (tgt := 25) X d_W_copy_4 (by decide) ⟨by omega, by omega⟩ ⟨by omega, by omega⟩ (fun c1 => ?_) (fun c1 => ?_)
      · exact kr () _ _ _ _ d_W_copy_25 (hw.fin hV (fun j hj => h3 j (by omega))) trivial
      · refine sy_aload_n X d_W_copy_7 hl 0 rfl ?_
        refine w_get X hw ha (tt_of k110 rfl) d_W_copy_8 ?_
        refine sy_iload_n X d_W_copy_11 hl 2 rfl ?_
        refine sy_aload_n X d_W_copy_12 hl 1 rfl ?_
        refine w_get X hw hb (tt_of k110 rfl) d_W_copy_13 ?_
        refine sy_iload_n X d_W_copy_16 hl 2 rfl ?_
        refine w_ald X hw b i hb (by omega) (by omega) (lim (z b) i) (rd_al hV h4) d_W_copy_17 ?_
        refine w_ast X hw a i ha (by omega) (by omega) d_W_copy_18 (fun H locs hw => ?_)
        rw [upA_s, upA_A] at hw
        obtain ⟨f1, ef1⟩ : ∃ g, g = up1 f i (lim (z b) i) := ⟨_, rfl⟩
        rw [← ef1] at hw
        refine sy_iinc (lv1 := [(2, .int (iI ((i + 1 : Nat) : Int))), (0, .ref (ad 0 a)), (1, .ref (ad 0 b))]) X d_W_copy_19 hl 2 rfl (by omega) (by decide) rfl (fun ls hl => ?_)
        refine sy_goto (tgt := 2) X d_W_copy_22 (by decide) ?_
        exact ih_key (i + 1) f1 H locs ls (by omega) (by omega) (by rw [ef1]; exact eq_up h3 rfl) (by rw [ef1]; exact al_up h4) hw (lv_sub hl [1, 2, 0] rfl)
  rw [eV] at hw
  exact key 6 0 (lim (z a)) H locs ls (by omega) (by omega) (fun j hj => by omega) (fun j _ => rfl) hw (lv_sub hl [1, 2, 0] rfl)
set_option maxRecDepth 100000 in
set_option maxHeartbeats 4000000 in
theorem c_W_setTimes (l : Launch) (D : va_G) (cs : Nat → ClassId) (ad : Nat → Nat → Nat) (z : Nat → Int) (a b : Nat) (fac : Int) (ha : a < 121) (hb : b < 121) (hf : R31 fac) : Ct (S := Unit) l D (tyL cs) y_W_setTimes b_W_setTimes 8 none (rm 1) [.ref (ad 0 a), .ref (ad 0 b), .int (iI fac)] (wZ ad cs z) (fun _ => True) (fun _ => none) (fun _ => wZ ad cs (up1 z a (z b * fac))) := by
  refine Ct.introV (by decide) (Nat.le_of_ble_eq_true rfl) (fun _ => rfl) ?_
  intro p e s m below meth c A args Q H locs X hnm hw kr ls hl
  have X : CX D (tyL cs) R_W b_W_setTimes 8 p m c s args := X
  have hl : lv_has ls 8 [(0, .ref (ad 0 a)), (1, .ref (ad 0 b)), (2, .int (iI fac))] := hl
  obtain ⟨V, hV⟩ : ∃ g : Nat → Nat → Int, g = fun k => lim (z k) := ⟨_, rfl⟩
  have hw : HW D A s.heap (wW ad cs V) H locs := by rw [hV]; exact hw
  have hf1 := hf.1
  have hf2 := hf.2
  have eV := upA_V hV a
  refine sy_lconst (z := 0) X d_W_setTimes_0 (by decide) ?_
  refine sy_lstore_n (lv1 := [(3, .long (jI 0)), (0, .ref (ad 0 a)), (1, .ref (ad 0 b)), (2, .int (iI fac))]) X d_W_setTimes_1 hl rfl (by decide) rfl (fun ls hl => ?_)
  refine sy_iconst X d_W_setTimes_2 ?_
  refine sy_istore (lv1 := [(5, .int (iI 0)), (3, .long (jI 0)), (0, .ref (ad 0 a)), (1, .ref (ad 0 b)), (2, .int (iI fac))]) X d_W_setTimes_3 hl (by decide) rfl (fun ls hl => ?_)
  have key : ∀ (n : Nat) (i : Nat) (f : Nat → Int) (cy : Int) (H : Heap) (locs : List Loc) (ls : Array Slot), i ≤ 5 → 5 < i + n → Lb f i → (∀ j, i ≤ j → f j = lim (z a) j) → ((0 ≤ fac ∧ 0 ≤ cy ∧ cy ≤ fac) ∨ (fac < 0 ∧ fac ≤ cy ∧ cy ≤ 0)) → vL f i + cy * 4294967296 ^ i = low (z b) i * fac → HW D A s.heap (wW ad cs (upA V a f)) H locs → lv_has ls 8 [(0, .ref (ad 0 a)), (1, .ref (ad 0 b)), (2, .int (iI fac)), (3, .long (jI cy)), (5, .int (iI ((i : Nat) : Int)))] → W p l e (rm 1) s m args below meth c H locs 0 0 Q (F0 m 5 ls []) := by
    intro n
    induction n with
    | zero =>
      intro i f cy H locs ls h1 h2 h3 h4 h5 h6 hw hl
      exfalso; omega
    | succ n ih_key =>
      intro i f cy H locs ls h1 h2 h3 h4 h5 h6 hw hl
      refine sy_iload X d_W_setTimes_5 hl 4 rfl ?_
      refine sy_iconst X d_W_setTimes_7 ?_
      refine sy_icmp_ge (tgt := 50) X d_W_setTimes_8 (by decide) ⟨by omega, by omega⟩ ⟨by omega, by omega⟩ (fun c1 => ?_) (fun c1 => ?_)
      · have hi : i = 5 := by omega
        rw [hi] at h3 h6
        exact kr () _ _ _ _ d_W_setTimes_50 (hw.fin hV (fin_st h3 h6)) trivial
      · have hlb := lim_rng (z b) i
        have hla := lim_rng (z a) i
        have hpr : (0 ≤ fac → 0 ≤ lim (z b) i * fac ∧ lim (z b) i * fac ≤ 4294967295 * fac) ∧ (fac < 0 → lim (z b) i * fac ≤ 0 ∧ 4294967295 * fac ≤ lim (z b) i * fac) := by
          refine ⟨fun h => ⟨Int.mul_nonneg hlb.1 h, Int.mul_le_mul_of_nonneg_right (by omega) h⟩, fun h => ?_⟩
          have g1 := Int.mul_le_mul_of_nonpos_right (show (0 : Int) ≤ lim (z b) i from hlb.1) (show fac ≤ 0 by omega)
          have g2 := Int.mul_le_mul_of_nonpos_right (show lim (z b) i ≤ 4294967295 by omega) (show fac ≤ 0 by omega)
          omega
        refine sy_aload_n X d_W_setTimes_11 hl 1 rfl ?_
        refine w_get X hw hb (tt_of k110 rfl) d_W_setTimes_12 ?_
        refine sy_iload X d_W_setTimes_15 hl 4 rfl ?_
        refine w_ald X hw b i hb (by omega) (by omega) (lim (z b) i) (rd_al hV h4) d_W_setTimes_17 ?_
        refine sy_iload_n X d_W_setTimes_18 hl 2 rfl ?_
        refine sy_i2l X d_W_setTimes_19 ⟨by omega, by omega⟩ ?_
        refine sy_lmul X d_W_setTimes_20 ?_
        refine sy_lload_n X d_W_setTimes_21 hl 3 rfl ?_
        refine sy_ladd X d_W_setTimes_22 ?_
        refine sy_lstore (lv1 := [(6, .long (jI (((lim (z b) i) * fac) + cy))), (0, .ref (ad 0 a)), (1, .ref (ad 0 b)), (2, .int (iI fac)), (3, .long (jI cy)), (5, .int (iI ((i : Nat) : Int)))]) X d_W_setTimes_23 hl (by decide) rfl (fun ls hl => ?_)
        refine sy_aload_n X d_W_setTimes_25 hl 1 rfl ?_
        refine w_get X hw ha (tt_of k110 rfl) d_W_setTimes_26 ?_
        refine sy_iload X d_W_setTimes_29 hl 5 rfl ?_
        refine sy_lload X d_W_setTimes_31 hl 0 rfl ?_
        refine sy_ldc2 (z := 4294967295) X (tt_of k197 rfl) d_W_setTimes_33 (by decide) ?_
        refine sy_land X 32 4294967296 d_W_setTimes_36 (by decide) (by decide) (by decide) ?_
        refine w_ast X hw a i ha (by omega) (by omega) d_W_setTimes_37 (fun H locs hw => ?_)
        rw [upA_s, upA_A] at hw
        obtain ⟨f1, ef1⟩ : ∃ g, g = up1 f i ((((lim (z b) i) * fac) + cy) % 4294967296) := ⟨_, rfl⟩
        rw [← ef1] at hw
        refine sy_lload X d_W_setTimes_38 hl 0 rfl ?_
        refine sy_bipush X d_W_setTimes_40 (by decide) ?_
        refine sy_lshr X 4294967296 d_W_setTimes_42 ⟨by omega, by omega⟩ (by omega) (by omega) (by decide) ?_
        refine sy_lstore_n (lv1 := [(3, .long (jI ((((lim (z b) i) * fac) + cy) / 4294967296))), (6, .long (jI (((lim (z b) i) * fac) + cy))), (0, .ref (ad 0 a)), (1, .ref (ad 0 b)), (2, .int (iI fac)), (5, .int (iI ((i : Nat) : Int)))]) X d_W_setTimes_43 hl rfl (by decide) rfl (fun ls hl => ?_)
        refine sy_iinc (lv1 := [(5, .int (iI ((i + 1 : Nat) : Int))), (3, .long (jI ((((lim (z b) i) * fac) + cy) / 4294967296))), (6, .long (jI (((lim (z b) i) * fac) + cy))), (0, .ref (ad 0 a)), (1, .ref (ad 0 b)), (2, .int (iI fac))]) X d_W_setTimes_44 hl 5 rfl (by omega) (by decide) rfl (fun ls hl => ?_)
        refine sy_goto (tgt := 5) X d_W_setTimes_47 (by decide) ?_
        exact ih_key (i + 1) f1 _ H locs ls (by omega) (by omega) (by rw [ef1]; exact lb_up1 h3 (mq0 _).1 (mq0 _).2) (by rw [ef1]; exact al_up h4) (by omega) (by rw [ef1, vL_up1, P_succ, low_succ]; exact st_step h6) hw (lv_sub hl [3, 4, 5, 1, 0] rfl)
  rw [eV] at hw
  exact key 6 0 (lim (z a)) 0 H locs ls (by omega) (by omega) (fun j hj => by omega) (fun j _ => rfl) (by omega) (by simp [vL, low_0]) hw (lv_sub hl [2, 3, 4, 1, 0] rfl)
set_option maxRecDepth 100000 in
set_option maxHeartbeats 4000000 in
theorem c_W_addTimes (l : Launch) (D : va_G) (cs : Nat → ClassId) (ad : Nat → Nat → Nat) (z : Nat → Int) (a b : Nat) (fac : Int) (ha : a < 121) (hb : b < 121) (hf : R31 fac) : Ct (S := Unit) l D (tyL cs) y_W_addTimes b_W_addTimes 8 none (rm 1) [.ref (ad 0 a), .ref (ad 0 b), .int (iI fac)] (wZ ad cs z) (fun _ => True) (fun _ => none) (fun _ => wZ ad cs (up1 z a (z a + z b * fac))) := by
  refine Ct.introV (by decide) (Nat.le_of_ble_eq_true rfl) (fun _ => rfl) ?_
  intro p e s m below meth c A args Q H locs X hnm hw kr ls hl
  have X : CX D (tyL cs) R_W b_W_addTimes 8 p m c s args := X
  have hl : lv_has ls 8 [(0, .ref (ad 0 a)), (1, .ref (ad 0 b)), (2, .int (iI fac))] := hl
  obtain ⟨V, hV⟩ : ∃ g : Nat → Nat → Int, g = fun k => lim (z k) := ⟨_, rfl⟩
  have hw : HW D A s.heap (wW ad cs V) H locs := by rw [hV]; exact hw
  have hf1 := hf.1
  have hf2 := hf.2
  have eV := upA_V hV a
  refine sy_lconst (z := 0) X d_W_addTimes_0 (by decide) ?_
  refine sy_lstore_n (lv1 := [(3, .long (jI 0)), (0, .ref (ad 0 a)), (1, .ref (ad 0 b)), (2, .int (iI fac))]) X d_W_addTimes_1 hl rfl (by decide) rfl (fun ls hl => ?_)
  refine sy_iconst X d_W_addTimes_2 ?_
  refine sy_istore (lv1 := [(5, .int (iI 0)), (3, .long (jI 0)), (0, .ref (ad 0 a)), (1, .ref (ad 0 b)), (2, .int (iI fac))]) X d_W_addTimes_3 hl (by decide) rfl (fun ls hl => ?_)
  have key : ∀ (n : Nat) (i : Nat) (f : Nat → Int) (cy : Int) (H : Heap) (locs : List Loc) (ls : Array Slot), i ≤ 5 → 5 < i + n → Lb f i → (∀ j, i ≤ j → f j = lim (z a) j) → ((0 ≤ fac ∧ 0 ≤ cy ∧ cy ≤ fac) ∨ (fac < 0 ∧ fac ≤ cy ∧ cy ≤ 0)) → vL f i + cy * 4294967296 ^ i = low (z a) i + low (z b) i * fac → HW D A s.heap (wW ad cs (upA V a f)) H locs → lv_has ls 8 [(0, .ref (ad 0 a)), (1, .ref (ad 0 b)), (2, .int (iI fac)), (3, .long (jI cy)), (5, .int (iI ((i : Nat) : Int)))] → W p l e (rm 1) s m args below meth c H locs 0 0 Q (F0 m 5 ls []) := by
    intro n
    induction n with
    | zero =>
      intro i f cy H locs ls h1 h2 h3 h4 h5 h6 hw hl
      exfalso; omega
    | succ n ih_key =>
      intro i f cy H locs ls h1 h2 h3 h4 h5 h6 hw hl
      refine sy_iload X d_W_addTimes_5 hl 4 rfl ?_
      refine sy_iconst X d_W_addTimes_7 ?_
      refine sy_icmp_ge (tgt := 58) X d_W_addTimes_8 (by decide) ⟨by omega, by omega⟩ ⟨by omega, by omega⟩ (fun c1 => ?_) (fun c1 => ?_)
      · have hi : i = 5 := by omega
        rw [hi] at h3 h6
        exact kr () _ _ _ _ d_W_addTimes_58 (hw.fin hV (fin_at h3 h6)) trivial
      · have hlb := lim_rng (z b) i
        have hla := lim_rng (z a) i
        have hpr : (0 ≤ fac → 0 ≤ lim (z b) i * fac ∧ lim (z b) i * fac ≤ 4294967295 * fac) ∧ (fac < 0 → lim (z b) i * fac ≤ 0 ∧ 4294967295 * fac ≤ lim (z b) i * fac) := by
          refine ⟨fun h => ⟨Int.mul_nonneg hlb.1 h, Int.mul_le_mul_of_nonneg_right (by omega) h⟩, fun h => ?_⟩
          have g1 := Int.mul_le_mul_of_nonpos_right (show (0 : Int) ≤ lim (z b) i from hlb.1) (show fac ≤ 0 by omega)
          have g2 := Int.mul_le_mul_of_nonpos_right (show lim (z b) i ≤ 4294967295 by omega) (show fac ≤ 0 by omega)
          omega
        refine sy_aload_n X d_W_addTimes_11 hl 0 rfl ?_
        refine w_get X hw ha (tt_of k110 rfl) d_W_addTimes_12 ?_
        refine sy_iload X d_W_addTimes_15 hl 4 rfl ?_
        refine w_ald X hw a i ha (by omega) (by omega) (lim (z a) i) (rd_al hV h4) d_W_addTimes_17 ?_
        refine sy_aload_n X d_W_addTimes_18 hl 1 rfl ?_
        refine w_get X hw hb (tt_of k110 rfl) d_W_addTimes_19 ?_
        refine sy_iload X d_W_addTimes_22 hl 4 rfl ?_
        refine w_ald X hw b i hb (by omega) (by omega) (lim (z b) i) (rd_al hV h4) d_W_addTimes_24 ?_
        refine sy_iload_n X d_W_addTimes_25 hl 2 rfl ?_
        refine sy_i2l X d_W_addTimes_26 ⟨by omega, by omega⟩ ?_
        refine sy_lmul X d_W_addTimes_27 ?_
        refine sy_ladd X d_W_addTimes_28 ?_
        refine sy_lload_n X d_W_addTimes_29 hl 3 rfl ?_
        refine sy_ladd X d_W_addTimes_30 ?_
        refine sy_lstore (lv1 := [(6, .long (jI (((lim (z a) i) + ((lim (z b) i) * fac)) + cy))), (0, .ref (ad 0 a)), (1, .ref (ad 0 b)), (2, .int (iI fac)), (3, .long (jI cy)), (5, .int (iI ((i : Nat) : Int)))]) X d_W_addTimes_31 hl (by decide) rfl (fun ls hl => ?_)
        refine sy_aload_n X d_W_addTimes_33 hl 1 rfl ?_
        refine w_get X hw ha (tt_of k110 rfl) d_W_addTimes_34 ?_
        refine sy_iload X d_W_addTimes_37 hl 5 rfl ?_
        refine sy_lload X d_W_addTimes_39 hl 0 rfl ?_
        refine sy_ldc2 (z := 4294967295) X (tt_of k197 rfl) d_W_addTimes_41 (by decide) ?_
        refine sy_land X 32 4294967296 d_W_addTimes_44 (by decide) (by decide) (by decide) ?_
        refine w_ast X hw a i ha (by omega) (by omega) d_W_addTimes_45 (fun H locs hw => ?_)
        rw [upA_s, upA_A] at hw
        obtain ⟨f1, ef1⟩ : ∃ g, g = up1 f i ((((lim (z a) i) + ((lim (z b) i) * fac)) + cy) % 4294967296) := ⟨_, rfl⟩
        rw [← ef1] at hw
        refine sy_lload X d_W_addTimes_46 hl 0 rfl ?_
        refine sy_bipush X d_W_addTimes_48 (by decide) ?_
        refine sy_lshr X 4294967296 d_W_addTimes_50 ⟨by omega, by omega⟩ (by omega) (by omega) (by decide) ?_
        refine sy_lstore_n (lv1 := [(3, .long (jI ((((lim (z a) i) + ((lim (z b) i) * fac)) + cy) / 4294967296))), (6, .long (jI (((lim (z a) i) + ((lim (z b) i) * fac)) + cy))), (0, .ref (ad 0 a)), (1, .ref (ad 0 b)), (2, .int (iI fac)), (5, .int (iI ((i : Nat) : Int)))]) X d_W_addTimes_51 hl rfl (by decide) rfl (fun ls hl => ?_)
        refine sy_iinc (lv1 := [(5, .int (iI ((i + 1 : Nat) : Int))), (3, .long (jI ((((lim (z a) i) + ((lim (z b) i) * fac)) + cy) / 4294967296))), (6, .long (jI (((lim (z a) i) + ((lim (z b) i) * fac)) + cy))), (0, .ref (ad 0 a)), (1, .ref (ad 0 b)), (2, .int (iI fac))]) X d_W_addTimes_52 hl 5 rfl (by omega) (by decide) rfl (fun ls hl => ?_)
        refine sy_goto (tgt := 5) X d_W_addTimes_55 (by decide) ?_
        exact ih_key (i + 1) f1 _ H locs ls (by omega) (by omega) (by rw [ef1]; exact lb_up1 h3 (mq0 _).1 (mq0 _).2) (by rw [ef1]; exact al_up h4) (by omega) (by rw [ef1, vL_up1, P_succ, low_succ, low_succ]; exact at_step h6) hw (lv_sub hl [3, 4, 5, 1, 0] rfl)
  rw [eV] at hw
  exact key 6 0 (lim (z a)) 0 H locs ls (by omega) (by omega) (fun j hj => by omega) (fun j _ => rfl) (by omega) (by simp [vL, low_0]) hw (lv_sub hl [2, 3, 4, 1, 0] rfl)
