/-- what the class keeps of its own order -/
def CI (E O P : Nat → Nat → Int) (t q : Nat) : Prop :=
  (E 0 0 = (t : Int) ∧ t ≤ 3 ∧ E 0 1 = (q : Int) ∧ q ≤ 6) ∧ (∀ k, k ≤ t → 0 ≤ E 1 k ∧ E 1 k ≤ ((t + q : Nat) : Int)) ∧ (∀ k, k < t → 1 ≤ E 1 (k + 1)) ∧
  (∀ i, i < q → okO (O i 0) (O i 1) (O i 2) (O i 3) ∧ 0 ≤ O i 5 ∧ O i 5 < ((t + q : Nat) : Int) ∧ R31 (O i 4)) ∧
  (∀ k, k < t → (∀ j, j < 4 → -3 ≤ P k j ∧ P k j ≤ 3) ∧ ∀ j, j < 3 → -99 ≤ P k (4 + j) ∧ P k (4 + j) ≤ 99)
def lrnTo (O : Nat → Nat → Int) (lt : Int) (u : Nat → Int) : Nat → Nat → Int
  | 0 => u
  | i + 1 => if O i 4 = lt then learnV (lrnTo O lt u i) (O i 0) (O i 1) (O i 2) (O i 3) else lrnTo O lt u i
/-- what the observations behind time t - d tell of that time -/
def hsV (O P : Nat → Nat → Int) (q t : Nat) : Nat → Nat → Int
  | 0 => blankV
  | d + 1 => backV (fun _ => 0) (noiseV (lrnTo O ((t - d : Nat) : Int) (hsV O P q t d) q) (P (t - d - 1) 4) (P (t - d - 1) 5) (P (t - d - 1) 6)) (P (t - d - 1))
theorem backV_congr {x x1 u u1 f f1 : Nat → Int} (hu : ∀ i, i < 9 → u i = u1 i) (hf : ∀ i, i < 4 → f i = f1 i) : ∀ i, i < 9 → backV x u f i = backV x1 u1 f1 i := fun i hi => by
  have h9 : i = 0 ∨ i = 1 ∨ i = 2 ∨ i = 3 ∨ i = 4 ∨ i = 5 ∨ i = 6 ∨ i = 7 ∨ i = 8 := by omega
  rcases h9 with e | e | e | e | e | e | e | e | e <;> subst e <;> simp only [backV, scaleV, turnV, hf 0 (by decide), hf 1 (by decide), hf 2 (by decide), hf 3 (by decide), hu 0 (by decide), hu 1 (by decide), hu 2 (by decide), hu 3 (by decide), hu 4 (by decide), hu 5 (by decide), hu 6 (by decide), hu 7 (by decide), hu 8 (by decide)]
/-- beliefs 0 to 9 are as they were -/
def KeepZ (z z1 : Nat → Int) : Prop := ∀ k, k < 90 → z1 k = z k
theorem setB_keep {z v : Nat → Int} {b k : Nat} (h : k < 9 * b) : setB z b v k = z k := setB_out (by omega)
def fI (E : Nat → Nat → Int) (t q tt : Nat) : Nat := if tt < t then (E 1 (tt + 1) - 1).toNat else t + q
/-- the belief that a question speaks of -/
def bvec (E O P : Nat → Nat → Int) (z : Nat → Int) (t q : Nat) (kd : Int) (tt : Nat) : Nat → Int := if kd = 0 then blB z (E 1 tt).toNat else if kd = 1 then blB z (fI E t q tt) else joinV (fun _ => 0) (blB z (fI E t q tt)) (hsV O P q t (t - tt))
def cN (E O P : Nat → Nat → Int) (z : Nat → Int) (t q : Nat) (kd tt e0 : Int) : Int :=
  if kd = 3 then (if e0 = 0 then blB z (O tt.toNat 5).toNat 4 * O tt.toNat 3 + blB z (O tt.toNat 5).toNat 7 * (-(O tt.toNat 0)) + blB z (O tt.toNat 5).toNat 8 * (-(O tt.toNat 1)) else blB z ((O tt.toNat 5).toNat + 1) 4) else tellN (bvec E O P z t q kd tt.toNat) e0
def cD (E O P : Nat → Nat → Int) (z : Nat → Int) (t q : Nat) (kd tt : Int) : Int := if kd = 3 then blB z (O tt.toNat 5).toNat 4 else bvec E O P z t q kd tt.toNat 4
theorem joinV_congr {x x1 u u1 v v1 : Nat → Int} (hu : ∀ i, i < 9 → u i = u1 i) (hv : ∀ i, i < 9 → v i = v1 i) : joinV x u v 1 = joinV x1 u1 v1 1 ∧ joinV x u v 2 = joinV x1 u1 v1 2 ∧ joinV x u v 3 = joinV x1 u1 v1 3 ∧ joinV x u v 4 = joinV x1 u1 v1 4 ∧ joinV x u v 7 = joinV x1 u1 v1 7 ∧ joinV x u v 8 = joinV x1 u1 v1 8 := by
  simp only [joinV, hu 0 (by decide), hu 1 (by decide), hu 2 (by decide), hu 3 (by decide), hu 4 (by decide), hu 5 (by decide), hu 6 (by decide), hu 7 (by decide), hu 8 (by decide), hv 0 (by decide), hv 1 (by decide), hv 2 (by decide), hv 3 (by decide), hv 4 (by decide), hv 5 (by decide), hv 6 (by decide), hv 7 (by decide), hv 8 (by decide), and_self]
theorem tellN_congr {u v : Nat → Int} {e0 : Int} (h1 : u 1 = v 1) (h2 : u 2 = v 2) (h3 : u 3 = v 3) (h7 : u 7 = v 7) (h8 : u 8 = v 8) : tellN u e0 = tellN v e0 := by simp only [tellN, h1, h2, h3, h7, h8]
set_option maxRecDepth 100000 in
set_option maxHeartbeats 4000000 in
theorem c_E_lookBackTo (l : Launch) (D : va_G) (cs : Nat → ClassId) (ad : Nat → Nat → Nat) (E O P : Nat → Nat → Int) (z : Nat → Int) (t q tt : Nat) (hI : CI E O P t q) (htt : tt ≤ t) : Ct (S := Nat → Int) l D (tyL cs) y_E_lookBackTo b_E_lookBackTo 4 none (rm 5) [.ref (ad 5 0), .int (iI ((tt : Nat) : Int))] (wE ad cs E O P z) (fun z1 => (∀ i, i < 9 → z1 (90 + i) = hsV O P q t (t - tt) i) ∧ ∀ k, (k < 90 ∨ 108 ≤ k) → z1 k = z k) (fun _ => none) (fun z1 => wE ad cs E O P z1) := by
  refine Ct.introV (by decide) (Nat.le_of_ble_eq_true rfl) (fun _ => rfl) ?_
  intro p e s m below meth c A args Q H locs X hnm hw kr ls hl
  have X : CX D (tyL cs) R_E b_E_lookBackTo 4 p m c s args := X
  have hl : lv_has ls 4 [(0, .ref (ad 5 0)), (1, .int (iI ((tt : Nat) : Int)))] := hl
  obtain ⟨⟨ht, ht3, hq, hq6⟩, hp0, hp1, hob, hpa⟩ := hI
  refine sy_aload_n X d_E_lookBackTo_0 hl 0 rfl ?_
  refine e_get X hw 7 (by decide) rfl (tt_of k205 rfl) d_E_lookBackTo_1 ?_
  refine call_Vv (Xs := XE ad cs E) (b := ad 2 10) (As := []) (rest := []) X lk_E_197 (c_B_setBlank l D cs ad O P z 10 (by decide)) ⟨by decide, by decide⟩ (rcv_B (by decide)) hw rfl hl.1 (Nat.le_of_ble_eq_true rfl) d_E_lookBackTo_4 rfl rfl ⟨Nat.zero_le _, Nat.zero_le _⟩ (fun _ H locs _ hw => ?_)
  refine sy_aload_n X d_E_lookBackTo_7 hl 0 rfl ?_
  refine e_get (v := .int (iI (t : Int))) X hw 5 (by decide) (by show some (Value.int (iI (E 0 0))) = _; rw [ht]) (tt_of k203 rfl) d_E_lookBackTo_8 ?_
  refine sy_istore_n (lv1 := [(2, .int (iI (t : Int))), (0, .ref (ad 5 0)), (1, .int (iI ((tt : Nat) : Int)))]) X d_E_lookBackTo_11 hl rfl (by decide) rfl (fun ls hl => ?_)
  have keyO : ∀ (n : Nat) (lt : Nat) (z1 : Nat → Int) (H : Heap) (locs : List Loc) (ls : Array Slot), tt ≤ lt → lt ≤ t → lt < n → (∀ i, i < 9 → z1 (90 + i) = hsV O P q t (t - lt) i) → (∀ k, (k < 90 ∨ 108 ≤ k) → z1 k = z k) → HW D A s.heap (wE ad cs E O P z1) H locs → lv_has ls 4 [(0, .ref (ad 5 0)), (1, .int (iI ((tt : Nat) : Int))), (2, .int (iI ((lt : Nat) : Int)))] → W p l e (rm 5) s m args below meth c H locs 0 0 Q (F0 m 12 ls []) := by
    intro n
    induction n with
    | zero =>
      intro lt z1 H locs ls f1 f2 f3 f4 f5 hw hl
      exfalso; omega
    | succ n ih_keyO =>
      intro lt z1 H locs ls f1 f2 f3 f4 f5 hw hl
      refine sy_iload_n X d_E_lookBackTo_12 hl 2 rfl ?_
      refine sy_iload_n X d_E_lookBackTo_13 hl 1 rfl ?_
      refine sy_icmp_le (tgt := 105) X d_E_lookBackTo_14 (by decide) ⟨by omega, by omega⟩ ⟨by omega, by omega⟩ (fun c1 => ?_) (fun c1 => ?_)
      · exact kr z1 _ _ _ _ d_E_lookBackTo_105 hw ⟨by rw [show tt = lt by omega]; exact f4, f5⟩
      · refine sy_iconst X d_E_lookBackTo_17 ?_
        refine sy_istore_n (lv1 := [(3, .int (iI 0)), (0, .ref (ad 5 0)), (1, .int (iI ((tt : Nat) : Int))), (2, .int (iI ((lt : Nat) : Int)))]) X d_E_lookBackTo_18 hl rfl (by decide) rfl (fun ls hl => ?_)
        have keyI : ∀ (n : Nat) (i : Nat) (z2 : Nat → Int) (H : Heap) (locs : List Loc) (ls : Array Slot), i ≤ q → q < i + n → (∀ k, k < 9 → z2 (90 + k) = lrnTo O (lt : Int) (hsV O P q t (t - lt)) i k) → (∀ k, (k < 90 ∨ 108 ≤ k) → z2 k = z k) → HW D A s.heap (wE ad cs E O P z2) H locs → lv_has ls 4 [(0, .ref (ad 5 0)), (1, .int (iI ((tt : Nat) : Int))), (2, .int (iI ((lt : Nat) : Int))), (3, .int (iI ((i : Nat) : Int)))] → W p l e (rm 5) s m args below meth c H locs 0 0 Q (F0 m 19 ls []) := by
          intro n
          induction n with
          | zero =>
            intro i z2 H locs ls g1 g2 g3 g4 hw hl
            exfalso; omega
          | succ n ih_keyI =>
            intro i z2 H locs ls g1 g2 g3 g4 hw hl
            refine sy_iload_n X d_E_lookBackTo_19 hl 3 rfl ?_
            refine sy_aload_n X d_E_lookBackTo_20 hl 0 rfl ?_
            refine e_get (v := .int (iI (q : Int))) X hw 6 (by decide) (by show some (Value.int (iI (E 0 1))) = _; rw [hq]) (tt_of k204 rfl) d_E_lookBackTo_21 ?_
            refine sy_icmp_ge (tgt := 59) X d_E_lookBackTo_24 (by decide) ⟨by omega, by omega⟩ ⟨by omega, by omega⟩ (fun c2 => ?_) (fun c2 => ?_)
            · have hiq : i = q := by omega
              rw [hiq] at g3
              have hpl := hpa (lt - 1) (by omega)
              refine sy_aload_n X d_E_lookBackTo_59 hl 0 rfl ?_
              refine e_get X hw 3 (by decide) rfl (tt_of k201 rfl) d_E_lookBackTo_60 ?_
              refine sy_iload_n X d_E_lookBackTo_63 hl 2 rfl ?_
              refine sy_iconst X d_E_lookBackTo_64 ?_
              refine sy_isub X d_E_lookBackTo_65 ?_
              refine e_aldQ X hw (lt - 1) (by omega) (by omega) d_E_lookBackTo_66 ?_
              refine sy_astore_n (lv1 := [(3, .ref (ad 4 (lt - 1))), (0, .ref (ad 5 0)), (1, .int (iI ((tt : Nat) : Int))), (2, .int (iI ((lt : Nat) : Int)))]) X d_E_lookBackTo_67 hl rfl (by decide) rfl (fun ls hl => ?_)
              refine sy_aload_n X d_E_lookBackTo_68 hl 1 rfl ?_
              refine e_get X hw 7 (by decide) rfl (tt_of k205 rfl) d_E_lookBackTo_69 ?_
              refine sy_aload_n X d_E_lookBackTo_72 hl 0 rfl ?_
              refine call_Vv (Xs := XE ad cs E) (b := ad 2 10) (As := [.ref (ad 4 (lt - 1))]) (rest := []) X lk_E_120 (c_B_addNoise l D cs ad O P z2 10 (lt - 1) (by decide) (by omega) (hpl.2 0 (by decide)) (hpl.2 1 (by decide)) (hpl.2 2 (by decide))) ⟨by decide, by decide⟩ (rcv_B (by decide)) hw rfl hl.1 (Nat.le_of_ble_eq_true rfl) d_E_lookBackTo_73 rfl rfl ⟨Nat.zero_le _, Nat.zero_le _⟩ (fun _ H locs _ hw => ?_)
              obtain ⟨z3, ez3⟩ : ∃ g, g = setB z2 10 (noiseV (blB z2 10) (P (lt - 1) 4) (P (lt - 1) 5) (P (lt - 1) 6)) := ⟨_, rfl⟩
              rw [← ez3] at hw
              refine sy_aload_n X d_E_lookBackTo_76 hl 1 rfl ?_
              refine e_get X hw 8 (by decide) rfl (tt_of k206 rfl) d_E_lookBackTo_77 ?_
              refine sy_aload_n X d_E_lookBackTo_80 hl 1 rfl ?_
              refine e_get X hw 7 (by decide) rfl (tt_of k205 rfl) d_E_lookBackTo_81 ?_
              refine sy_aload_n X d_E_lookBackTo_84 hl 0 rfl ?_
              refine call_Vv (Xs := XE ad cs E) (b := ad 2 11) (As := [.ref (ad 2 10), .ref (ad 4 (lt - 1))]) (rest := []) X lk_E_203 (c_B_moveBack l D cs ad O P z3 11 10 (lt - 1) (by decide) (by decide) (by decide) (by omega) hpl.1) ⟨by decide, by decide⟩ (rcv_B (by decide)) hw rfl hl.1 (Nat.le_of_ble_eq_true rfl) d_E_lookBackTo_85 rfl rfl ⟨Nat.zero_le _, Nat.zero_le _⟩ (fun _ H locs _ hw => ?_)
              obtain ⟨z4, ez4⟩ : ∃ g, g = setB z3 11 (backV (blB z3 11) (blB z3 10) (P (lt - 1))) := ⟨_, rfl⟩
              rw [← ez4] at hw
              refine sy_aload_n X d_E_lookBackTo_88 hl 1 rfl ?_
              refine e_get X hw 7 (by decide) rfl (tt_of k205 rfl) d_E_lookBackTo_89 ?_
              refine sy_aload_n X d_E_lookBackTo_92 hl 1 rfl ?_
              refine e_get X hw 8 (by decide) rfl (tt_of k206 rfl) d_E_lookBackTo_93 ?_
              refine call_Vv (Xs := XE ad cs E) (b := ad 2 10) (As := [.ref (ad 2 11)]) (rest := []) X lk_E_105 (c_B_copy l D cs ad O P z4 10 11 (by decide) (by decide) (by decide)) ⟨by decide, by decide⟩ (rcv_B (by decide)) hw rfl hl.1 (Nat.le_of_ble_eq_true rfl) d_E_lookBackTo_96 rfl rfl ⟨Nat.zero_le _, Nat.zero_le _⟩ (fun _ H locs _ hw => ?_)
              have hN1 : ∀ i, i < 9 → setB z4 10 (blB z4 11) (90 + i) = hsV O P q t (t - (lt - 1)) i := fun i hi => by
                have e1 : setB z4 10 (blB z4 11) (90 + i) = _ := setB_in (b := 10) hi
                have e2 : blB z4 11 i = backV (blB z3 11) (blB z3 10) (P (lt - 1)) i := by rw [ez4]; exact blB_s hi
                rw [e1, e2, show t - (lt - 1) = (t - lt) + 1 by omega]; simp only [hsV]
                rw [show t - (t - lt) = lt by omega]
                refine backV_congr (fun j hj => ?_) (fun j hj => rfl) i hi
                rw [ez3, blB_s hj]
                exact noiseV_congr (fun k hk => g3 k hk) j hj
              have hN2 : ∀ k, (k < 90 ∨ 108 ≤ k) → setB z4 10 (blB z4 11) k = z k := fun k hk => by rw [setB_out (by omega), ez4, setB_out (by omega), ez3, setB_out (by omega)]; exact g4 k hk
              refine sy_iinc (lv1 := [(2, .int (iI (((lt : Nat) : Int) + (-1)))), (3, .ref (ad 4 (lt - 1))), (0, .ref (ad 5 0)), (1, .int (iI ((tt : Nat) : Int)))]) X d_E_lookBackTo_99 hl 3 rfl (by omega) (by decide) rfl (fun ls hl => ?_)
              refine sy_goto (tgt := 12) X d_E_lookBackTo_102 (by decide) ?_
              rw [show (((lt : Nat) : Int) + (-1)) = ((lt - 1 : Nat) : Int) by omega] at hl
              exact ih_keyO (lt - 1) _ H locs ls (by omega) (by omega) (by omega) hN1 hN2 hw (lv_sub hl [2, 3, 0] rfl)
            · have hoi := hob i (by omega)
              obtain ⟨⟨ok0, ok1, ok2, ok3⟩, -, -, ok4⟩ := hoi
              refine sy_aload_n X d_E_lookBackTo_27 hl 0 rfl ?_
              refine e_get X hw 2 (by decide) rfl (tt_of k200 rfl) d_E_lookBackTo_28 ?_
              refine sy_iload_n X d_E_lookBackTo_31 hl 3 rfl ?_
              refine e_aldO X hw i (by omega) (by omega) d_E_lookBackTo_32 ?_
              refine o_get (XE ad cs E) X hw 4 (by omega) (by decide) (tt_of k165 rfl) d_E_lookBackTo_33 ?_
              refine sy_iload_n X d_E_lookBackTo_36 hl 2 rfl ?_
              refine sy_icmp_ne (tgt := 53) X d_E_lookBackTo_37 (by decide) ok4 ⟨by omega, by omega⟩ (fun cat => ?_) (fun cat => ?_)
              · have h31 : ∀ k, k < 9 → z2 (90 + k) = lrnTo O (lt : Int) (hsV O P q t (t - lt)) (i + 1) k := fun k hk => by rw [g3 k hk]; simp only [lrnTo]; rw [if_neg cat]
                have h41 := g4
                refine sy_iinc (lv1 := [(3, .int (iI ((i + 1 : Nat) : Int))), (0, .ref (ad 5 0)), (1, .int (iI ((tt : Nat) : Int))), (2, .int (iI ((lt : Nat) : Int)))]) X d_E_lookBackTo_53 hl 3 rfl (by omega) (by decide) rfl (fun ls hl => ?_)
                refine sy_goto (tgt := 19) X d_E_lookBackTo_56 (by decide) ?_
                exact ih_keyI (i + 1) _ H locs ls (by omega) (by omega) h31 h41 hw (lv_sub hl [1, 2, 3, 0] rfl)
              · refine sy_aload_n X d_E_lookBackTo_40 hl 0 rfl ?_
                refine e_get X hw 7 (by decide) rfl (tt_of k205 rfl) d_E_lookBackTo_41 ?_
                refine sy_aload_n X d_E_lookBackTo_44 hl 0 rfl ?_
                refine e_get X hw 2 (by decide) rfl (tt_of k200 rfl) d_E_lookBackTo_45 ?_
                refine sy_iload_n X d_E_lookBackTo_48 hl 3 rfl ?_
                refine e_aldO X hw i (by omega) (by omega) d_E_lookBackTo_49 ?_
                refine call_Vv (Xs := XE ad cs E) (b := ad 2 10) (As := [.ref (ad 3 i)]) (rest := []) X lk_E_109 (c_B_learn l D cs ad O P z2 10 i (by decide) (by omega) ok0 ok1 ok2 ok3) ⟨by decide, by decide⟩ (rcv_B (by decide)) hw rfl hl.1 (Nat.le_of_ble_eq_true rfl) d_E_lookBackTo_50 rfl rfl ⟨Nat.zero_le _, Nat.zero_le _⟩ (fun _ H locs _ hw => ?_)
                have h31 : ∀ k, k < 9 → (setB z2 10 (learnV (blB z2 10) (O i 0) (O i 1) (O i 2) (O i 3))) (90 + k) = lrnTo O (lt : Int) (hsV O P q t (t - lt)) (i + 1) k := fun k hk => by
                  have e1 : setB z2 10 (learnV (blB z2 10) (O i 0) (O i 1) (O i 2) (O i 3)) (90 + k) = _ := setB_in (b := 10) hk
                  rw [e1]; simp only [lrnTo]; rw [if_pos cat]
                  exact learnV_congr (fun j hj => g3 j hj) k hk
                have h41 : ∀ k, (k < 90 ∨ 108 ≤ k) → (setB z2 10 (learnV (blB z2 10) (O i 0) (O i 1) (O i 2) (O i 3))) k = z k := fun k hk => by rw [setB_out (by omega)]; exact g4 k hk
                refine sy_iinc (lv1 := [(3, .int (iI ((i + 1 : Nat) : Int))), (0, .ref (ad 5 0)), (1, .int (iI ((tt : Nat) : Int))), (2, .int (iI ((lt : Nat) : Int)))]) X d_E_lookBackTo_53 hl 3 rfl (by omega) (by decide) rfl (fun ls hl => ?_)
                refine sy_goto (tgt := 19) X d_E_lookBackTo_56 (by decide) ?_
                exact ih_keyI (i + 1) _ H locs ls (by omega) (by omega) h31 h41 hw (lv_sub hl [1, 2, 3, 0] rfl)
        exact keyI (q + 1) 0 z1 H locs ls (by omega) (by omega) f4 f5 hw (lv_sub hl [1, 2, 3, 0] rfl)
  exact keyO (t + 1) t _ H locs ls (by omega) (by omega) (by omega) (fun i hi => by rw [show t - t = 0 by omega]; exact setB_in (b := 10) hi) (fun k hk => setB_out (by omega)) hw (lv_sub hl [1, 2, 0] rfl)
