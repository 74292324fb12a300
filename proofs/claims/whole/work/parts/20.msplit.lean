section Nm
variable {p : Program} {l : Launch} {e : Env} {R : Room} {s : State} {m : MethodId} {args : Array Value} {below : List Frame} {meth : Method} {c : Code} {H : Heap} {locs : List Loc} {cells slots : Nat} {Q : State → Prop} {pc : Nat} {ls : Array Slot} {rest : List Value}
theorem nm_l {a : Int} (k : ∀ z, z = a → W p l e R s m args below meth c H locs cells slots Q (F0 m pc ls (.long (jI z) :: rest))) : W p l e R s m args below meth c H locs cells slots Q (F0 m pc ls (.long (jI a) :: rest)) := k a rfl
theorem nm_i {a : Int} (k : ∀ z, z = a → W p l e R s m args below meth c H locs cells slots Q (F0 m pc ls (.int (iI z) :: rest))) : W p l e R s m args below meth c H locs cells slots Q (F0 m pc ls (.int (iI a) :: rest)) := k a rfl
end Nm
theorem c_M_fitsW (l : Launch) (D : va_G) (cs : Nat → ClassId) (ad : Nat → Nat) (M : Nat → Nat → Int) (N : Nat → Int) (r q : Nat → Int) (y j u : Nat) (hy : y < 120) (hR : Rep M N) (hu : M 2 y = (u : Int)) (hj : j + u + 1 ≤ 224) (hd : Dg (fun k => r (j + k)) (u + 1)) : Ct (S := Unit) l D (tyL cs) y_M_fits b_M_fits 6 (some .boolean) (rm 2) [.ref (ad 0), .int (iI ((y : Nat) : Int)), .int (iI ((j : Nat) : Int))] (wM ad cs (W2 M r q)) (fun _ => True) (fun _ => some (.int (iI (if ((N y).natAbs : Int) ≤ wd r j (u + 1) then 1 else 0)))) (fun _ => wM ad cs (W2 M r q)) :=
  c_M_fits l D cs ad (W2 M r q) N y j u hy hR hu hj hd
theorem c_M_takeOffW (l : Launch) (D : va_G) (cs : Nat → ClassId) (ad : Nat → Nat) (M : Nat → Nat → Int) (N : Nat → Int) (r qf : Nat → Int) (y j u : Nat) (q : Int) (hy : y < 120) (hR : Rep M N) (hu : M 2 y = (u : Int)) (hj : j + u + 1 ≤ 224) (hd : Dg (fun k => r (j + k)) (u + 1)) (hq0 : 0 ≤ q) (hq1 : q < 4294967296) (hle : q * ((N y).natAbs : Int) ≤ wd r j (u + 1)) : Ct (S := Nat → Int) l D (tyL cs) y_M_takeOff b_M_takeOff 10 none (rm 2) [.ref (ad 0), .int (iI ((y : Nat) : Int)), .int (iI ((j : Nat) : Int)), .long (jI q)] (wM ad cs (W2 M r qf)) (fun r1 => (∀ t, (t < j ∨ j + (u + 1) ≤ t) → r1 t = r t) ∧ Dg (fun k => r1 (j + k)) (u + 1) ∧ wd r1 j (u + 1) = wd r j (u + 1) - q * ((N y).natAbs : Int)) (fun _ => none) (fun r1 => wM ad cs (W2 M r1 qf)) := by
  have h := c_M_takeOff l D cs ad (W2 M r qf) N y j u q hy hR hu hj hd hq0 hq1 hle
  have e : (fun r1 => wM ad cs (upA (W2 M r qf) 4 r1)) = (fun r1 => wM ad cs (W2 M r1 qf)) := funext (fun r1 => by rw [W2_A4])
  rw [e] at h
  exact h
theorem sp_lt {VR Y P q0 v : Int} (hP : 0 < P) (hY : 0 < Y) (h : VR + q0 * Y * P < Y * (P * 65536)) (hv : v * Y * P ≤ VR) : q0 + v < 65536 := by
  have h1 : (q0 + v) * (Y * P) < 65536 * (Y * P) := by
    have e1 : (q0 + v) * (Y * P) = q0 * Y * P + v * Y * P := by grind
    have e2 : Y * (P * 65536) = 65536 * (Y * P) := by grind
    rw [e1, ← e2]; omega
  exact Int.lt_of_mul_lt_mul_right h1 (Int.le_of_lt (Int.mul_pos hY hP))
theorem eq_up {r f : Nat → Int} {k : Nat} {x : Int} (h : ∀ t, t < k → r t = f t) (hx : x = f k) : ∀ t, t < k + 1 → up1 r k x t = f t := fun t ht => by
  by_cases e : t = k
  · rw [e, up1_s, hx]
  · rw [up1_n _ e]; exact h t (by omega)
theorem sp_init {X Y : Int} {ux uy : Nat} (hX : X < 65536 ^ ux) (hY : 65536 ^ (uy - 1) ≤ Y) (h1 : 1 ≤ uy) (hY0 : 0 < Y) : X < Y * 65536 ^ ((ux : Int) - (uy : Int) + 1).toNat := by
  rcases Nat.lt_or_ge ux uy with h | h
  · rw [show ((ux : Int) - (uy : Int) + 1).toNat = 0 by omega]
    have := B_le (show ux ≤ uy - 1 by omega)
    simp; omega
  · have e : 65536 ^ ux = (65536 : Int) ^ (uy - 1) * 65536 ^ ((ux : Int) - (uy : Int) + 1).toNat := by
      rw [← Int.pow_add]; congr 1; omega
    rw [e] at hX
    have := Int.mul_le_mul_of_nonneg_right hY (Int.le_of_lt (B_pos ((ux : Int) - (uy : Int) + 1).toNat))
    omega
set_option maxRecDepth 100000 in
set_option maxHeartbeats 4000000 in
theorem c_M_split (l : Launch) (D : va_G) (cs : Nat → ClassId) (ad : Nat → Nat) (M : Nat → Nat → Int) (N : Nat → Int) (x y ux uy : Nat) (hx : x < 120) (hy : y < 120) (hR : Rep M N) (hux : M 2 x = (ux : Int)) (huy : M 2 y = (uy : Int)) (hy1 : 1 ≤ uy) : Ct (S := (Nat → Int) × (Nat → Int)) l D (tyL cs) y_M_split b_M_split 12 none (rm 3) [.ref (ad 0), .int (iI ((x : Nat) : Int)), .int (iI ((y : Nat) : Int))] (wM ad cs M) (fun u => Dg u.1 (ux + 3) ∧ Dg u.2 (ux + 3) ∧ ((N x).natAbs : Int) = vl u.2 (ux + 3) * ((N y).natAbs : Int) + vl u.1 (ux + 3) ∧ vl u.1 (ux + 3) < ((N y).natAbs : Int)) (fun _ => none) (fun u => wM ad cs (W2 M u.1 u.2)) := by
  refine Ct.introV (by decide) (Nat.le_of_ble_eq_true rfl) (fun _ => rfl) ?_
  intro p e s m below meth c A args Q H locs X hnm hw kr ls hl
  have X : CX D (tyL cs) R_M b_M_split 12 p m c s args := X
  have hl : lv_has ls 12 [(0, .ref (ad 0)), (1, .int (iI ((x : Nat) : Int))), (2, .int (iI ((y : Nat) : Int)))] := hl
  have hWf := hR.wf
  obtain ⟨vx, hvx0, hux1, hdx, hvx, hltx, -, -⟩ := (hR x hx).dig
  have eux : vx = ux := by omega
  rw [eux] at hux1 hvx hltx
  obtain ⟨vy, hvy0, huy1, hdy, hvy, hlty, htopy, -⟩ := (hR y hy).dig
  have euy : vy = uy := by omega
  rw [euy] at huy1 hvy hlty htopy
  have hvx := hvx (ux + 3) (by omega)
  have hvy := hvy uy (by omega)
  have htopy : (65536 : Int) ^ (uy - 1) ≤ ((N y).natAbs : Int) := by rcases htopy with h | h; omega; exact h
  have hYp : (0 : Int) < ((N y).natAbs : Int) := by have := B_pos (uy - 1); omega
  generalize hXe : ((N x).natAbs : Int) = X0 at *
  generalize hYe : ((N y).natAbs : Int) = Y0 at *
  have eM : M = W2 M (M 4) (M 5) := W2_self M
  refine sy_aload_n X d_M_split_0 hl 0 rfl ?_
  refine m_get X hw 1 (by decide) rfl (tt_of k510 rfl) d_M_split_1 ?_
  refine sy_iload_n X d_M_split_4 hl 1 rfl ?_
  refine m_ald X hw 2 x (by decide) (by omega) (by simp only [szM]; omega) (ux : Int) hux d_M_split_5 ?_
  refine sy_istore_n (lv1 := [(3, .int (iI (ux : Int))), (0, .ref (ad 0)), (1, .int (iI ((x : Nat) : Int))), (2, .int (iI ((y : Nat) : Int)))]) X d_M_split_6 hl rfl (by decide) rfl (fun ls hl => ?_)
  refine sy_aload_n X d_M_split_7 hl 1 rfl ?_
  refine m_get X hw 1 (by decide) rfl (tt_of k510 rfl) d_M_split_8 ?_
  refine sy_iload_n X d_M_split_11 hl 3 rfl ?_
  refine m_ald X hw 2 y (by decide) (by omega) (by simp only [szM]; omega) (uy : Int) huy d_M_split_12 ?_
  refine sy_istore (lv1 := [(4, .int (iI (uy : Int))), (3, .int (iI (ux : Int))), (0, .ref (ad 0)), (1, .int (iI ((x : Nat) : Int))), (2, .int (iI ((y : Nat) : Int)))]) X d_M_split_13 hl (by decide) rfl (fun ls hl => ?_)
  refine sy_iconst X d_M_split_15 ?_
  refine sy_istore (lv1 := [(5, .int (iI 0)), (4, .int (iI (uy : Int))), (3, .int (iI (ux : Int))), (0, .ref (ad 0)), (1, .int (iI ((x : Nat) : Int))), (2, .int (iI ((y : Nat) : Int)))]) X d_M_split_16 hl (by decide) rfl (fun ls hl => ?_)
  have key1 : ∀ (n : Nat) (k : Nat) (r q : Nat → Int) (H : Heap) (locs : List Loc) (ls : Array Slot), k ≤ ux + 3 → ux + 3 < k + n → (∀ t, t < k → r t = dgt M x t) → (∀ t, t < k → q t = 0) → HW D A s.heap (wM ad cs (W2 M r q)) H locs → lv_has ls 12 [(0, .ref (ad 0)), (1, .int (iI ((x : Nat) : Int))), (2, .int (iI ((y : Nat) : Int))), (3, .int (iI (ux : Int))), (4, .int (iI (uy : Int))), (5, .int (iI ((k : Nat) : Int)))] → W p l e (rm 3) s m args below meth c H locs 0 0 Q (F0 m 18 ls []) := by
    intro n
    induction n with
    | zero =>
      intro k r q H locs ls h1 h2 h3 h4 hw hl
      exfalso; omega
    | succ n ih_key1 =>
      intro k r q H locs ls h1 h2 h3 h4 hw hl
      refine sy_iload X d_M_split_18 hl 5 rfl ?_
      refine sy_iload_n X d_M_split_20 hl 3 rfl ?_
      refine sy_iconst X d_M_split_21 ?_
      refine sy_iadd X d_M_split_22 ?_
      refine sy_icmp_ge (tgt := 54) X d_M_split_23 (by decide) ⟨by omega, by omega⟩ ⟨by omega, by omega⟩ (fun c1 => ?_) (fun c1 => ?_)
      · have hk : k = ux + 3 := by omega
        rw [hk] at h3 h4
        have hDr : Dg r (ux + 3) := fun t ht => by rw [h3 t ht]; exact hdx _ t ht
        have hDq : Dg q (ux + 3) := fun t ht => by rw [h4 t ht]; decide
        have hVr : vl r (ux + 3) = X0 := by rw [← hvx]; exact vl_congr h3
        have hVq : vl q (ux + 3) = 0 := by rw [vl_zero (u := 0) (by omega) (fun t _ ht => h4 t ht)]; rfl
        refine sy_aload_n X d_M_split_54 hl 0 rfl ?_
        refine sy_iload_n X d_M_split_55 hl 2 rfl ?_
        refine sy_iload X d_M_split_56 hl 4 rfl ?_
        refine sy_iconst X d_M_split_58 ?_
        refine sy_isub X d_M_split_59 ?_
        rw [show ((uy : Int) - 1) = ((uy - 1 : Nat) : Int) by omega]
        refine call_Vi (Xs := []) (b := ad 0) (As := [.int (iI ((y : Nat) : Int)), .int (iI ((uy - 1 : Nat) : Int))]) (rest := []) X lk_M_40 (c_M_digitOfW l D cs ad M r q y (uy - 1) (by omega) (by omega) hWf) ⟨by decide, by decide⟩ rcv_M hw rfl hl.1 (Nat.le_of_ble_eq_true rfl) d_M_split_60 rfl rfl ⟨Nat.zero_le _, Nat.zero_le _⟩ (fun _ H locs _ hw => ?_)
        have hb1 := hdy uy (uy - 1) (by omega)
        refine sy_i2l X d_M_split_63 ⟨by omega, by omega⟩ ?_
        refine sy_ldc2 (z := 65536) X (tt_of k618 rfl) d_M_split_64 (by decide) ?_
        refine sy_lmul X d_M_split_67 ?_
        have km2 : ∀ (H : Heap) (locs : List Loc), HW D A s.heap (wM ad cs (W2 M r q)) H locs → W p l e (rm 3) s m args below meth c H locs 0 0 Q (F0 m 87 ls [.int (iI (if 1 < uy then dgt M y (uy - 2) else 0)), .long (jI ((dgt M y (uy - 1)) * 65536))]) := by
          intro H locs hw
          have hb2 : 0 ≤ (if 1 < uy then dgt M y (uy - 2) else 0) ∧ (if 1 < uy then dgt M y (uy - 2) else 0) < 65536 := by
            split
            · exact hdy uy (uy - 2) (by omega)
            · decide
          refine sy_i2l X d_M_split_87 ⟨by omega, by omega⟩ ?_
          refine sy_ladd X d_M_split_88 ?_
          refine nm_l (fun lo hlo => ?_)
          refine sy_lstore (lv1 := [(5, .long (jI lo)), (0, .ref (ad 0)), (1, .int (iI ((x : Nat) : Int))), (2, .int (iI ((y : Nat) : Int))), (3, .int (iI (ux : Int))), (4, .int (iI (uy : Int)))]) X d_M_split_89 hl (by decide) rfl (fun ls hl => ?_)
          refine sy_iload_n X d_M_split_91 hl 4 rfl ?_
          refine sy_iload X d_M_split_92 hl 5 rfl ?_
          refine sy_isub X d_M_split_94 ?_
          refine sy_istore (lv1 := [(7, .int (iI ((ux : Int) - (uy : Int)))), (5, .long (jI lo)), (0, .ref (ad 0)), (1, .int (iI ((x : Nat) : Int))), (2, .int (iI ((y : Nat) : Int))), (3, .int (iI (ux : Int))), (4, .int (iI (uy : Int)))]) X d_M_split_95 hl (by decide) rfl (fun ls hl => ?_)
          have keyO : ∀ (n : Nat) (ix : Int) (r q : Nat → Int) (H : Heap) (locs : List Loc) (ls : Array Slot), -110 ≤ ix → ix ≤ (ux : Int) - uy → ix + 112 ≤ (n : Int) → Dg r (ux + 3) → Dg q (ux + 3) → (∀ t : Nat, (t : Int) ≤ ix → q t = 0) → X0 = vl q (ux + 3) * Y0 + vl r (ux + 3) → vl r (ux + 3) < Y0 * 65536 ^ (ix + 1).toNat → HW D A s.heap (wM ad cs (W2 M r q)) H locs → lv_has ls 12 [(0, .ref (ad 0)), (1, .int (iI ((x : Nat) : Int))), (2, .int (iI ((y : Nat) : Int))), (3, .int (iI (ux : Int))), (4, .int (iI (uy : Int))), (5, .long (jI lo)), (7, .int (iI ix))] → W p l e (rm 3) s m args below meth c H locs 0 0 Q (F0 m 97 ls []) := by
            intro n
            induction n with
            | zero =>
              intro ix r q H locs ls g0 g1 g2 g3 g4 g5 g6 g7 hw hl
              exfalso; omega
            | succ n ih_keyO =>
              intro ix r q H locs ls g0 g1 g2 g3 g4 g5 g6 g7 hw hl
              refine sy_iload X d_M_split_97 hl 6 rfl ?_
              refine sy_if_lt (tgt := 234) X d_M_split_99 (by decide) ⟨by omega, by omega⟩ (fun c3 => ?_) (fun c3 => ?_)
              · exact kr (r, q) _ _ _ _ d_M_split_234 hw ⟨g3, g4, g6, by rw [show (ix + 1).toNat = 0 by omega] at g7; simpa using g7⟩
              · obtain ⟨j, rfl⟩ : ∃ j : Nat, ix = (j : Int) := ⟨ix.toNat, by omega⟩
                have ej : ((j : Int) + 1).toNat = j + 1 := by omega
                rw [ej] at g7
                have hqj : q j = 0 := g5 j (by omega)
                have keyI : ∀ (n : Nat) (r q : Nat → Int) (H : Heap) (locs : List Loc) (ls : Array Slot), vl r (ux + 3) < (n : Int) → Dg r (ux + 3) → Dg q (ux + 3) → (∀ t : Nat, (t : Int) < (j : Int) → q t = 0) → X0 = vl q (ux + 3) * Y0 + vl r (ux + 3) → vl r (ux + 3) + q j * Y0 * 65536 ^ j < Y0 * (65536 ^ j * 65536) → HW D A s.heap (wM ad cs (W2 M r q)) H locs → lv_has ls 12 [(0, .ref (ad 0)), (1, .int (iI ((x : Nat) : Int))), (2, .int (iI ((y : Nat) : Int))), (3, .int (iI (ux : Int))), (4, .int (iI (uy : Int))), (5, .long (jI lo)), (7, .int (iI ((j : Nat) : Int)))] → W p l e (rm 3) s m args below meth c H locs 0 0 Q (F0 m 102 ls []) := by
                  intro n
                  induction n with
                  | zero =>
                    intro r q H locs ls f1 f3 f4 f5 f6 f7 hw hl
                    exfalso; have := vl_nonneg f3; omega
                  | succ n ih_keyI =>
                    intro r q H locs ls f1 f3 f4 f5 f6 f7 hw hl
                    have hr0 := vl_nonneg f3
                    have hqj0 := f4 j (by omega)
                    have hPj := B_pos j
                    have hqY : 0 ≤ q j * Y0 * 65536 ^ j := Int.mul_nonneg (Int.mul_nonneg hqj0.1 (Int.le_of_lt hYp)) (Int.le_of_lt hPj)
                    have hwin := win (Y := Y0) (j := j) (m := uy) f3 (by omega) (Int.le_of_lt hlty) (by rw [B_succ]; omega)
                    have hDw : Dg (fun k => r (j + k)) (uy + 1) := fun k hk => f3 (j + k) (by omega)
                    refine sy_aload_n X d_M_split_102 hl 0 rfl ?_
                    refine sy_iload_n X d_M_split_103 hl 2 rfl ?_
                    refine sy_iload X d_M_split_104 hl 6 rfl ?_
                    refine call_Vi (Xs := []) (b := ad 0) (As := [.int (iI ((y : Nat) : Int)), .int (iI ((j : Nat) : Int))]) (rest := []) X lk_M_64 (c_M_fitsW l D cs ad M N r q y j uy hy hR huy (by omega) hDw) ⟨by decide, by decide⟩ rcv_M hw rfl hl.1 (Nat.le_of_ble_eq_true rfl) d_M_split_106 rfl rfl ⟨Nat.zero_le _, Nat.zero_le _⟩ (fun _ H locs _ hw => ?_)
                    rw [hYe]
                    refine sy_if_eq (tgt := 228) X d_M_split_109 (by decide) (by split <;> exact ⟨by decide, by decide⟩) (fun cF => ?_) (fun cF => ?_)
                    · have hnf : vl r (ux + 3) < Y0 * 65536 ^ j := by
                        have hlt : wd r j (uy + 1) < Y0 := by
                          rcases Int.lt_or_le (wd r j (uy + 1)) Y0 with h | h
                          · exact h
                          · rw [if_pos h] at cF; omega
                        have := Int.mul_le_mul_of_nonneg_right (show wd r j (uy + 1) + 1 ≤ Y0 by omega) (Int.le_of_lt hPj)
                        rw [Int.add_mul] at this
                        omega
                      refine sy_iinc (lv1 := [(7, .int (iI (((j : Nat) : Int) + (-1)))), (0, .ref (ad 0)), (1, .int (iI ((x : Nat) : Int))), (2, .int (iI ((y : Nat) : Int))), (3, .int (iI (ux : Int))), (4, .int (iI (uy : Int))), (5, .long (jI lo))]) X d_M_split_228 hl 6 rfl (by omega) (by decide) rfl (fun ls hl => ?_)
                      refine sy_goto (tgt := 97) X d_M_split_231 (by decide) ?_
                      exact ih_keyO _ r q H locs ls (by omega) (by omega) (by omega) f3 f4 (fun t ht => f5 t (by omega)) f6 (by rw [show ((j : Int) + (-1) + 1).toNat = j by omega]; exact hnf) hw (lv_sub hl [1, 2, 3, 4, 5, 6, 0] rfl)
                    · have hfit : Y0 ≤ wd r j (uy + 1) := by
                        rcases Int.lt_or_le (wd r j (uy + 1)) Y0 with h | h
                        · rw [if_neg (by omega)] at cF; omega
                        · exact h
                      have b1 : 0 ≤ r (j + uy) ∧ r (j + uy) < 65536 := f3 (j + uy) (by omega)
                      have b2 : 0 ≤ r (j + (uy - 1)) ∧ r (j + (uy - 1)) < 65536 := f3 (j + (uy - 1)) (by omega)
                      refine sy_aload_n X d_M_split_112 hl 0 rfl ?_
                      refine m_get X hw 3 (by decide) rfl (tt_of k512 rfl) d_M_split_113 ?_
                      refine sy_iload X d_M_split_116 hl 6 rfl ?_
                      refine sy_iload X d_M_split_118 hl 4 rfl ?_
                      refine sy_iadd X d_M_split_120 ?_
                      refine m_ald X hw 4 (j + uy) (by decide) (by omega) (by simp only [szM]; omega) (r (j + uy)) rfl d_M_split_121 ?_
                      refine sy_i2l X d_M_split_122 ⟨by omega, by omega⟩ ?_
                      refine sy_ldc2 (z := 4294967296) X (tt_of k623 rfl) d_M_split_123 (by decide) ?_
                      refine sy_lmul X d_M_split_126 ?_
                      refine sy_aload_n X d_M_split_127 hl 0 rfl ?_
                      refine m_get X hw 3 (by decide) rfl (tt_of k512 rfl) d_M_split_128 ?_
                      refine sy_iload X d_M_split_131 hl 6 rfl ?_
                      refine sy_iload X d_M_split_133 hl 4 rfl ?_
                      refine sy_iadd X d_M_split_135 ?_
                      refine sy_iconst X d_M_split_136 ?_
                      refine sy_isub X d_M_split_137 ?_
                      refine m_ald X hw 4 (j + (uy - 1)) (by decide) (by omega) (by simp only [szM]; omega) (r (j + (uy - 1))) rfl d_M_split_138 ?_
                      refine sy_i2l X d_M_split_139 ⟨by omega, by omega⟩ ?_
                      refine sy_ldc2 (z := 65536) X (tt_of k618 rfl) d_M_split_140 (by decide) ?_
                      refine sy_lmul X d_M_split_143 ?_
                      refine sy_ladd X d_M_split_144 ?_
                      have km5 : ∀ (H : Heap) (locs : List Loc), HW D A s.heap (wM ad cs (W2 M r q)) H locs → W p l e (rm 3) s m args below meth c H locs 0 0 Q (F0 m 170 ls [.int (iI (if 1 < j + uy then r (j + uy - 2) else 0)), .long (jI (((r (j + uy)) * 4294967296) + ((r (j + (uy - 1))) * 65536)))]) := by
                        intro H locs hw
                        have b3 : 0 ≤ (if 1 < j + uy then r (j + uy - 2) else 0) ∧ (if 1 < j + uy then r (j + uy - 2) else 0) < 65536 := by
                          split
                          · exact f3 (j + uy - 2) (by omega)
                          · decide
                        refine sy_i2l X d_M_split_170 ⟨by omega, by omega⟩ ?_
                        refine sy_ladd X d_M_split_171 ?_
                        refine nm_l (fun hi hhi => ?_)
                        refine sy_lstore (lv1 := [(8, .long (jI hi)), (0, .ref (ad 0)), (1, .int (iI ((x : Nat) : Int))), (2, .int (iI ((y : Nat) : Int))), (3, .int (iI (ux : Int))), (4, .int (iI (uy : Int))), (5, .long (jI lo)), (7, .int (iI ((j : Nat) : Int)))]) X d_M_split_172 hl (by decide) rfl (fun ls hl => ?_)
                        refine sy_lload X d_M_split_174 hl 0 rfl ?_
                        refine sy_lload X d_M_split_176 hl 6 rfl ?_
                        refine sy_lconst (z := 1) X d_M_split_178 (by decide) ?_
                        refine sy_ladd X d_M_split_179 ?_
                        have hlo0 : 0 ≤ lo ∧ lo < 4294967296 := by omega
                        refine sy_ldiv X d_M_split_180 (by omega) (by omega) (by omega) (by omega) ?_
                        refine nm_l (fun Q0 hQ0 => ?_)
                        refine sy_lstore (lv1 := [(10, .long (jI Q0)), (8, .long (jI hi)), (0, .ref (ad 0)), (1, .int (iI ((x : Nat) : Int))), (2, .int (iI ((y : Nat) : Int))), (3, .int (iI (ux : Int))), (4, .int (iI (uy : Int))), (5, .long (jI lo)), (7, .int (iI ((j : Nat) : Int)))]) X d_M_split_181 hl (by decide) rfl (fun ls hl => ?_)
                        have hQ00 : 0 ≤ Q0 ∧ Q0 ≤ hi := by rw [hQ0]; exact ⟨Int.ediv_nonneg (by omega) (by omega), Int.ediv_le_self _ (by omega)⟩
                        have hQle : Q0 * Y0 ≤ wd r j (uy + 1) := by
                          rw [hQ0, hhi, hlo]
                          have := q_ok (f := fun k => r (j + k)) (dy := dgt M y) (m := uy) (Y := Y0) (a0 := (if 1 < j + uy then r (j + uy - 2) else 0)) hDw (hdy uy) hy1 hvy b3 (fun h => by rw [if_pos (by omega)]; exact congrArg r (by omega))
                          exact this
                        have km6 : ∀ (H : Heap) (locs : List Loc), HW D A s.heap (wM ad cs (W2 M r q)) H locs → W p l e (rm 3) s m args below meth c H locs 0 0 Q (F0 m 196 ls [.long (jI (if Q0 < 1 then 1 else Q0))]) := by
                          intro H locs hw
                          refine nm_l (fun v hv => ?_)
                          refine sy_lstore (lv1 := [(10, .long (jI v)), (8, .long (jI hi)), (0, .ref (ad 0)), (1, .int (iI ((x : Nat) : Int))), (2, .int (iI ((y : Nat) : Int))), (3, .int (iI (ux : Int))), (4, .int (iI (uy : Int))), (5, .long (jI lo)), (7, .int (iI ((j : Nat) : Int)))]) X d_M_split_196 hl (by decide) rfl (fun ls hl => ?_)
                          have hv1 : 1 ≤ v := by rw [hv]; split <;> omega
                          have hvle : v * Y0 ≤ wd r j (uy + 1) := by
                            rw [hv]; split
                            · omega
                            · exact hQle
                          have hvP : v * Y0 * 65536 ^ j ≤ vl r (ux + 3) := by
                            have := Int.mul_le_mul_of_nonneg_right hvle (Int.le_of_lt hPj)
                            omega
                          have hvb := sp_lt hPj hYp f7 hvP
                          refine sy_aload_n X d_M_split_198 hl 2 rfl ?_
                          refine sy_iload_n X d_M_split_199 hl 4 rfl ?_
                          refine sy_iload X d_M_split_200 hl 8 rfl ?_
                          refine sy_lload X d_M_split_202 hl 0 rfl ?_
                          refine call_Vv (Xs := []) (b := ad 0) (As := [.int (iI ((y : Nat) : Int)), .int (iI ((j : Nat) : Int)), .long (jI v)]) (rest := []) X lk_M_70 (c_M_takeOffW l D cs ad M N r q y j uy v hy hR huy (by omega) hDw (by omega) (by omega) (by rw [hYe]; exact hvle)) ⟨by decide, by decide⟩ rcv_M hw rfl hl.1 (Nat.le_of_ble_eq_true rfl) d_M_split_204 rfl rfl ⟨Nat.zero_le _, Nat.zero_le _⟩ (fun rr H locs hp hw => ?_)
                          rw [hYe] at hp
                          obtain ⟨hp1, hp2, hp3⟩ := hp
                          refine sy_aload_n X d_M_split_207 hl 2 rfl ?_
                          refine m_get X hw 4 (by decide) rfl (tt_of k513 rfl) d_M_split_208 ?_
                          refine sy_iload X d_M_split_211 hl 8 rfl ?_
                          refine sy_aload_n X d_M_split_213 hl 2 rfl ?_
                          refine m_get X hw 4 (by decide) rfl (tt_of k513 rfl) d_M_split_214 ?_
                          refine sy_iload X d_M_split_217 hl 8 rfl ?_
                          refine m_ald X hw 5 j (by decide) (by omega) (by simp only [szM]; omega) (q j) rfl d_M_split_219 ?_
                          refine sy_lload X d_M_split_220 hl 0 rfl ?_
                          refine sy_l2i X d_M_split_222 ?_
                          refine sy_iadd X d_M_split_223 ?_
                          refine m_ast X hw 5 j (by decide) (by omega) (by simp only [szM]; omega) d_M_split_224 (fun H locs hw => ?_)
                          rw [W2_5] at hw
                          obtain ⟨q1, eq1⟩ : ∃ g, g = up1 q j ((q j) + v) := ⟨_, rfl⟩
                          rw [← eq1] at hw
                          have hVrr : vl rr (ux + 3) = vl r (ux + 3) - v * Y0 * 65536 ^ j := by
                            rw [vl_win hp1 (ux + 3) (by omega), hp3]; grind
                          have hVq1 : vl q1 (ux + 3) = vl q (ux + 3) + v * 65536 ^ j := by rw [eq1, vl_upd _ (by omega)]; grind
                          have hvpos : 1 ≤ v * Y0 * 65536 ^ j := Int.mul_pos (Int.mul_pos (by omega) hYp) hPj
                          have hF : vl rr (ux + 3) < (n : Int) := by omega
                          have hD1 : Dg rr (ux + 3) := fun t ht => by
                            rcases Nat.lt_or_ge t j with h | h
                            · rw [hp1 t (Or.inl h)]; exact f3 t ht
                            · rcases Nat.lt_or_ge t (j + (uy + 1)) with h2 | h2
                              · have := hp2 (t - j) (by omega)
                                simp only [show j + (t - j) = t by omega] at this; exact this
                              · rw [hp1 t (Or.inr h2)]; exact f3 t ht
                          have hDq1 : Dg q1 (ux + 3) := by rw [eq1]; exact dg_upd f4 (by omega) (by omega)
                          have hZ1 : ∀ t : Nat, (t : Int) < (j : Int) → q1 t = 0 := fun t ht => by rw [eq1, up1_n _ (by omega)]; exact f5 t ht
                          have hX1 : X0 = vl q1 (ux + 3) * Y0 + vl rr (ux + 3) := by rw [hVq1, hVrr, f6]; grind
                          have hI1 : vl rr (ux + 3) + q1 j * Y0 * 65536 ^ j < Y0 * (65536 ^ j * 65536) := by rw [eq1, up1_s, hVrr]; grind
                          refine sy_goto (tgt := 102) X d_M_split_225 (by decide) ?_
                          exact ih_keyI rr q1 H locs ls hF hD1 hDq1 hZ1 hX1 hI1 hw (lv_sub hl [2, 3, 4, 5, 6, 7, 8] rfl)
                        refine sy_lload X d_M_split_183 hl 0 rfl ?_
                        refine sy_lconst (z := 1) X d_M_split_185 (by decide) ?_
                        refine sy_lcif_ge (tgt := 194) X d_M_split_186 d_M_split_187 (by decide) ⟨by omega, by omega⟩ ⟨by omega, by omega⟩ (fun c7 => ?_) (fun c7 => ?_)
                        · refine sy_lload X d_M_split_194 hl 0 rfl ?_
                          exact W_topl (by split <;> omega) (km6 H locs hw)
                        · refine sy_lconst (z := 1) X d_M_split_190 (by decide) ?_
                          refine sy_goto (tgt := 196) X d_M_split_191 (by decide) ?_
                          exact W_topl (by split <;> omega) (km6 H locs hw)
                      refine sy_iload X d_M_split_145 hl 6 rfl ?_
                      refine sy_iload X d_M_split_147 hl 4 rfl ?_
                      refine sy_iadd X d_M_split_149 ?_
                      refine sy_iconst X d_M_split_150 ?_
                      refine sy_icmp_le (tgt := 169) X d_M_split_151 (by decide) ⟨by omega, by omega⟩ ⟨by omega, by omega⟩ (fun c8 => ?_) (fun c8 => ?_)
                      · refine sy_iconst X d_M_split_169 ?_
                        exact W_topi (by split <;> first | rfl | omega) (km5 H locs hw)
                      · refine sy_aload_n X d_M_split_154 hl 0 rfl ?_
                        refine m_get X hw 3 (by decide) rfl (tt_of k512 rfl) d_M_split_155 ?_
                        refine sy_iload X d_M_split_158 hl 6 rfl ?_
                        refine sy_iload X d_M_split_160 hl 4 rfl ?_
                        refine sy_iadd X d_M_split_162 ?_
                        refine sy_iconst X d_M_split_163 ?_
                        refine sy_isub X d_M_split_164 ?_
                        refine m_ald X hw 4 (j + uy - 2) (by decide) (by omega) (by simp only [szM]; omega) (r (j + uy - 2)) rfl d_M_split_165 ?_
                        refine sy_goto (tgt := 170) X d_M_split_166 (by decide) ?_
                        exact W_topi (by split <;> first | rfl | omega) (km5 H locs hw)
                exact keyI ((vl r (ux + 3)).toNat + 1) r q H locs ls (by have := vl_nonneg g3; omega) g3 g4 (fun t ht => g5 t (by omega)) g6 (by rw [hqj, ← B_succ]; omega) hw (lv_sub hl [0, 1, 2, 3, 4, 5, 6] rfl)
          exact keyO (ux + 120) _ r q H locs ls (by omega) (by omega) (by omega) hDr hDq (fun t ht => h4 t (by omega)) (by rw [hVq, hVr]; omega) (by rw [hVr]; exact sp_init hltx htopy hy1 hYp) hw (lv_sub hl [2, 3, 4, 5, 6, 1, 0] rfl)
        refine sy_iload X d_M_split_68 hl 4 rfl ?_
        refine sy_iconst X d_M_split_70 ?_
        refine sy_icmp_le (tgt := 86) X d_M_split_71 (by decide) ⟨by omega, by omega⟩ ⟨by omega, by omega⟩ (fun c9 => ?_) (fun c9 => ?_)
        · refine sy_iconst X d_M_split_86 ?_
          exact W_topi (by split <;> first | rfl | omega) (km2 H locs hw)
        · refine sy_aload_n X d_M_split_74 hl 0 rfl ?_
          refine sy_iload_n X d_M_split_75 hl 2 rfl ?_
          refine sy_iload X d_M_split_76 hl 4 rfl ?_
          refine sy_iconst X d_M_split_78 ?_
          refine sy_isub X d_M_split_79 ?_
          rw [show ((uy : Int) - 2) = ((uy - 2 : Nat) : Int) by omega]
          refine call_Vi (Xs := []) (b := ad 0) (As := [.int (iI ((y : Nat) : Int)), .int (iI ((uy - 2 : Nat) : Int))]) (rest := [.long (jI ((dgt M y (uy - 1)) * 65536))]) X lk_M_40 (c_M_digitOfW l D cs ad M r q y (uy - 2) (by omega) (by omega) hWf) ⟨by decide, by decide⟩ rcv_M hw rfl hl.1 (Nat.le_of_ble_eq_true rfl) d_M_split_80 rfl rfl ⟨Nat.zero_le _, Nat.zero_le _⟩ (fun _ H locs _ hw => ?_)
          refine sy_goto (tgt := 87) X d_M_split_83 (by decide) ?_
          exact W_topi (by split <;> first | rfl | omega) (km2 H locs hw)
      · have hbk := hdx (k + 1) k (by omega)
        refine sy_aload_n X d_M_split_26 hl 0 rfl ?_
        refine m_get X hw 3 (by decide) rfl (tt_of k512 rfl) d_M_split_27 ?_
        refine sy_iload X d_M_split_30 hl 5 rfl ?_
        refine sy_aload_n X d_M_split_32 hl 0 rfl ?_
        refine sy_iload_n X d_M_split_33 hl 1 rfl ?_
        refine sy_iload X d_M_split_34 hl 5 rfl ?_
        refine call_Vi (Xs := []) (b := ad 0) (As := [.int (iI ((x : Nat) : Int)), .int (iI ((k : Nat) : Int))]) (rest := [.int (iI ((k : Nat) : Int)), .ref (ad 4)]) X lk_M_40 (c_M_digitOfW l D cs ad M r q x k (by omega) (by omega) hWf) ⟨by decide, by decide⟩ rcv_M hw rfl hl.1 (Nat.le_of_ble_eq_true rfl) d_M_split_36 rfl rfl ⟨Nat.zero_le _, Nat.zero_le _⟩ (fun _ H locs _ hw => ?_)
        refine m_ast X hw 4 k (by decide) (by omega) (by simp only [szM]; omega) d_M_split_39 (fun H locs hw => ?_)
        rw [W2_4] at hw
        obtain ⟨r2, er2⟩ : ∃ g, g = up1 r k (dgt M x k) := ⟨_, rfl⟩
        rw [← er2] at hw
        refine sy_aload_n X d_M_split_40 hl 0 rfl ?_
        refine m_get X hw 4 (by decide) rfl (tt_of k513 rfl) d_M_split_41 ?_
        refine sy_iload X d_M_split_44 hl 5 rfl ?_
        refine sy_iconst X d_M_split_46 ?_
        refine m_ast X hw 5 k (by decide) (by omega) (by simp only [szM]; omega) d_M_split_47 (fun H locs hw => ?_)
        rw [W2_5] at hw
        obtain ⟨q3, eq3⟩ : ∃ g, g = up1 q k 0 := ⟨_, rfl⟩
        rw [← eq3] at hw
        refine sy_iinc (lv1 := [(5, .int (iI ((k + 1 : Nat) : Int))), (0, .ref (ad 0)), (1, .int (iI ((x : Nat) : Int))), (2, .int (iI ((y : Nat) : Int))), (3, .int (iI (ux : Int))), (4, .int (iI (uy : Int)))]) X d_M_split_48 hl 5 rfl (by omega) (by decide) rfl (fun ls hl => ?_)
        refine sy_goto (tgt := 18) X d_M_split_51 (by decide) ?_
        exact ih_key1 (k + 1) r2 q3 H locs ls (by omega) (by omega) (by rw [er2]; exact eq_up h3 rfl) (by rw [eq3]; exact zero_up h4) hw (lv_sub hl [1, 2, 3, 4, 5, 0] rfl)
  rw [eM] at hw
  exact key1 (ux + 4) 0 (M 4) (M 5) H locs ls (by omega) (by omega) (fun t ht => by omega) (fun t ht => by omega) hw (lv_sub hl [3, 4, 5, 2, 1, 0] rfl)
