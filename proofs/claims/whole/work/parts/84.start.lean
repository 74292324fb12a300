set_option maxRecDepth 100000 in
set_option maxHeartbeats 4000000 in
/-- from the entry, for every script of at most 3072 ints, the law comes to its end with true -/
theorem whole_start {p : Program} {e : Env} {s : State} {m : MethodId} {below : List Frame} {meth : Method} {c : Code} (l : Launch) {b L : Nat} {xs : Nat → Int32} (hL : L ≤ 3072) (C0 : lw_At p s m meth c b L xs) : W p l e room_1 s m #[Value.ref b] below meth c s.heap [] 0 0 (lw_Z below #[Value.ref b] s) (entryFrame m ([Value.ref b] : List Value).toArray 4) := by
  obtain ⟨hx, hb, hr, hml, hown, hts, hX, hbl, hlocks, hgv⟩ := id C0
  obtain ⟨c0, i0, n0⟩ := u_known (C := R_B) (T := F_B) (N := 9) (n := 9) hts i_B (hts _ k99)
  obtain ⟨c1, i1, n1⟩ := u_known (C := R_O) (T := F_O) (N := 6) (n := 6) hts i_O (hts _ k148)
  obtain ⟨c2, i2, n2⟩ := u_known (C := R_Q) (T := F_Q) (N := 7) (n := 7) hts i_Q (hts _ k64)
  obtain ⟨c3, i3, n3⟩ := u_known (C := R_W) (T := F_W) (N := 1) (n := 1) hts i_W (hts _ k105)
  obtain ⟨c4, i4, n4⟩ := u_known (C := R_E) (T := F_E) (N := 14) (n := 14) hts i_E (hts _ k51)
  obtain ⟨c5, i5, n5⟩ := u_known (C := R_M) (T := F_M) (N := 11) (n := 11) hts i_M (hts _ k487)
  have hAB : va_AO R_B s := va_AO.of (hts _ k59)
  have hAO : va_AO R_O s := va_AO.of (hts _ k61)
  have hAQ : va_AO R_Q s := va_AO.of (hts _ k63)
  have hz : ZN s := ⟨⟨hAB, hAO, hAQ⟩, va_Nw.of rfl (hts _ k65), va_Nw.of rfl (hts _ k100), va_Nw.of rfl (hts _ k147), va_Nw.of rfl (hts _ k149), va_Nw.of rfl (hts _ k106)⟩
  obtain ⟨a0, b0, f0, g00, g01, g02⟩ := Cond.arrayClass_spec (hts _ k98)
  obtain ⟨a1, b1, f1, g10, g11, g12⟩ := Cond.arrayClass_spec (hts _ k114)
  obtain ⟨f2, a2, b2, g20, g21, g22, g23, g24⟩ := Cond.arrayOver_spec hAB
  obtain ⟨f3, a3, b3, g30, g31, g32, g33, g34⟩ := Cond.arrayOver_spec hAO
  obtain ⟨f4, a4, b4, g40, g41, g42, g43, g44⟩ := Cond.arrayOver_spec hAQ
  obtain ⟨D, hKc⟩ : ∃ D : va_G, ∀ (k : Nat) (q : vw_C), classes[k]? = some q → u_Kn s q.1 q.2.1 q.2.2 (D.1 k) (D.2 k) := by
    refine ⟨(fun k => match k with | 0 => c0 | 1 => c1 | 2 => c2 | 3 => c3 | 4 => c4 | _ => c5, fun k => match k with | 0 => i0 | 1 => i1 | 2 => i2 | 3 => i3 | 4 => i4 | _ => i5), ?_⟩
    intro k q hq
    match k, hq with
    | 0, hq => cases hq; exact n0
    | 1, hq => cases hq; exact n1
    | 2, hq => cases hq; exact n2
    | 3, hq => cases hq; exact n3
    | 4, hq => cases hq; exact n4
    | 5, hq => cases hq; exact n5
    | k + 6, hq => simp [classes] at hq
  obtain ⟨cs, hcs⟩ : ∃ cs : Nat → ClassId, ∀ (k : Nat) (q : ClassId × FieldType), (tyL cs)[k]? = some q → ArrOfT s q.1 q.2 ∧ va_RA s q.1 q.2 := by
    refine ⟨fun k => match k with | 0 => a0 | 1 => a1 | 2 => a2 | 3 => a3 | _ => a4, ?_⟩
    intro k q hq
    match k, hq with
    | 0, hq => cases hq; exact ⟨fun _ _ => ⟨fun _ h => (by cases h), b0, g01, f0, g02⟩, g00⟩
    | 1, hq => cases hq; exact ⟨fun _ _ => ⟨fun _ h => (by cases h), b1, g11, f1, g12⟩, g10⟩
    | 2, hq => cases hq; exact ⟨fun _ _ => ⟨fun _ h => (by cases h), b2, g22, f2, g23⟩, b2, f2, g22, g23, g20, g24⟩
    | 3, hq => cases hq; exact ⟨fun _ _ => ⟨fun _ h => (by cases h), b3, g32, f3, g33⟩, b3, f3, g32, g33, g30, g34⟩
    | 4, hq => cases hq; exact ⟨fun _ _ => ⟨fun _ h => (by cases h), b4, g42, f4, g43⟩, b4, f4, g42, g43, g40, g44⟩
    | k + 5, hq => simp [tyL] at hq
  have X : LX D cs p m c s b L xs := ⟨⟨⟨hx, hb, hml, hown, fun w hw => hts w (List.mem_filter.mp hw).1⟩, hKc, hcs⟩, hX, hbl, hL⟩
  have hw : HW D (AL s) s.heap [] s.heap [] := ⟨fun k q h => by simp at h, ⟨fun i j p q h => by simp at h, fun k q h => by simp at h⟩, va_S.rf, fun q h => h⟩
  have hl := lv_entry ([.ref b]) (n := 4) (Nat.le_of_ble_eq_true rfl)
  rw [lg_entry_eq]
  generalize (lg_sl ([.ref b]) ++ List.replicate (4 - (lg_sl ([.ref b])).length) Slot.unset).toArray = ls at hl ⊢
  have hl : lv_has ls 4 [(0, .ref b)] := hl
  refine hw_new (ci := 4) (fs := [.null, .null, .null, .null, .null, .int 0, .int 0, .null, .null, .null, .null, .null, .null, .null]) X.1 hw ig_E t_E t_E_ok (tt_of k50 rfl) (tt_of k51 rfl) (tt_of k43 rfl) rfl (fun j hj => by rcases (show j = 0 ∨ j = 1 ∨ j = 2 ∨ j = 3 ∨ j = 4 ∨ j = 5 ∨ j = 6 ∨ j = 7 ∨ j = 8 ∨ j = 9 ∨ j = 10 ∨ j = 11 ∨ j = 12 ∨ j = 13 by omega) with rfl | rfl | rfl | rfl | rfl | rfl | rfl | rfl | rfl | rfl | rfl | rfl | rfl | rfl <;> rfl) (by decide) (by decide) d_L_law_0 (fun q1 H1 hw1 => ?_)
  refine sy_dup X.1 d_L_law_3 rfl ?_
  refine call_I (Xs := []) X.1 hz (tt_of k52 rfl) (tt_of k54 rfl) (tt_of k43 rfl) (tt_of k53 rfl) rfl (by decide +kernel) (z_E_init l D cs q1) ⟨by decide, by decide⟩ hw1 hl.1 (Nat.le_of_ble_eq_true rfl) d_L_law_4 ⟨by decide, by decide⟩ (fun ad H3 locs3 had hw3 => ?_)
  subst had
  refine sy_astore_n (lv1 := [(1, .ref (ad 5 0)), (0, .ref b)]) X.1 d_L_law_7 hl rfl (by decide) rfl (fun ls hl => ?_)
  refine hw_new (ci := 5) (fs := [.null, .null, .null, .null, .null, .int 0, .int 0, .int 0, .null, .null, .null]) X.1 hw3 ig_M t_M t_M_ok (tt_of k486 rfl) (tt_of k487 rfl) (tt_of k48 rfl) rfl (fun j hj => by rcases (show j = 0 ∨ j = 1 ∨ j = 2 ∨ j = 3 ∨ j = 4 ∨ j = 5 ∨ j = 6 ∨ j = 7 ∨ j = 8 ∨ j = 9 ∨ j = 10 by omega) with rfl | rfl | rfl | rfl | rfl | rfl | rfl | rfl | rfl | rfl | rfl <;> rfl) (by decide) (by decide) d_L_law_8 (fun q2 H2 hw2 => ?_)
  refine sy_dup X.1 d_L_law_11 rfl ?_
  refine call_I (Xs := wE ad cs Z2 Z2 P1 z1E) X.1 hz (tt_of k488 rfl) (tt_of k490 rfl) (tt_of k48 rfl) (tt_of k489 rfl) rfl (by decide +kernel) (z_M_init l D cs q2) ⟨by decide, by decide⟩ hw2 hl.1 (Nat.le_of_ble_eq_true rfl) d_L_law_12 ⟨by decide, by decide⟩ (fun u H locs hu hw => ?_)
  obtain ⟨am, M⟩ := u
  obtain ⟨ham, hbg⟩ := hu
  have ham : am 0 = q2 := ham
  subst ham
  refine sy_astore_n (lv1 := [(2, .ref (am 0)), (1, .ref (ad 5 0)), (0, .ref b)]) X.1 d_L_law_15 hl rfl (by decide) rfl (fun ls hl => ?_)
  refine sy_iconst X.1 d_L_law_16 ?_
  refine sy_istore_n (lv1 := [(3, .int (iI 0)), (2, .ref (am 0)), (1, .ref (ad 5 0)), (0, .ref b)]) X.1 d_L_law_17 hl rfl (by decide) rfl (fun ls hl => ?_)
  exact law_loop l C0 X (L + 1) 0 (Nat.zero_le L) (by omega) M Z2 Z2 P1 z1E H locs ls (ok_start hbg) hw (lv_sub hl [3, 2, 1, 0] rfl)
