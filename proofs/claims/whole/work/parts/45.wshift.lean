theorem jI_shl {n : Nat} {k : Int} (h0 : 0 ≤ k) (h1 : k < 64) : jI (n : Int) <<< ((iI k).toInt64 &&& 63) = jI ((n : Int) * 2 ^ k.toNat) := by
  rw [jI_cnt h0 h1]
  apply Int64.toBitVec_inj.mp
  apply BitVec.eq_of_toNat_eq
  have hs : ((lN k.toNat).toBitVec.smod 64).toNat = k.toNat := by
    have : ∀ k, k < 64 → ((lN k).toBitVec.smod 64).toNat = k := by decide
    exact this _ (by omega)
  show ((jI (n : Int)).toBitVec <<< ((lN k.toNat).toBitVec.smod 64).toNat).toNat = _
  rw [hs, BitVec.toNat_shiftLeft, Nat.shiftLeft_eq, jI_tn, jI_tn, p2c, ← Int.natCast_mul]
  have e1 : (((n : Int) % 18446744073709551616).toNat) = n % 18446744073709551616 := by omega
  have e2 : (((n * 2 ^ k.toNat : Nat) : Int) % 18446744073709551616).toNat = n * 2 ^ k.toNat % 18446744073709551616 := by omega
  rw [e1, e2, show (2 : Nat) ^ 64 = 18446744073709551616 by decide, Nat.mul_mod, Nat.mod_mod, ← Nat.mul_mod]
theorem jI_or {a t : Nat} {m : Nat} (ha : a < 2 ^ m) (hb : 2 ^ m * t + a < 18446744073709551616) : jI (a : Int) ||| jI ((2 ^ m * t : Nat) : Int) = jI (((a + 2 ^ m * t : Nat)) : Int) := by
  apply Int64.toBitVec_inj.mp
  apply BitVec.eq_of_toNat_eq
  rw [Int64.toBitVec_or, BitVec.toNat_or, jI_tn, jI_tn, jI_tn]
  have e1 : (((a : Nat) : Int) % 18446744073709551616).toNat = a := by omega
  have e2 : (((2 ^ m * t : Nat) : Int) % 18446744073709551616).toNat = 2 ^ m * t := by omega
  have e3 : (((a + 2 ^ m * t : Nat) : Int) % 18446744073709551616).toNat = a + 2 ^ m * t := by omega
  rw [e1, e2, e3, Nat.or_comm, ← Nat.two_pow_add_eq_or_of_lt ha, Nat.add_comm]
theorem sy_lshl {a b : Int} {p : Program} {l : Launch} {e : Env} {R : Room} {s : State} {m : MethodId} {args : Array Value} {below : List Frame} {meth : Method} {c0 : Code} {H : Heap} {locs : List Loc} {cells slots : Nat} {Q : State → Prop} {D : va_G} {tys : List (ClassId × FieldType)} {own : String} {cc : ByteArray} {nL : Nat} {pc : Nat} {ls : Array Slot} {rest : List Value} (X : CX D tys own cc nL p m c0 s args) (hd : decode cc pc = .ok (.lshl, 1)) (ha : 0 ≤ a) (h0 : 0 ≤ b) (h1 : b < 64) (k : W p l e R s m args below meth c0 H locs cells slots Q (F0 m (pc + 1) ls (.long (jI (a * 2 ^ b.toNat)) :: rest))) : W p l e R s m args below meth c0 H locs cells slots Q (F0 m pc ls (.int (iI b) :: .long (jI a) :: rest)) :=
  lv_lshl X.1.1 X.1.2.1 hd (by
    obtain ⟨n, rfl⟩ : ∃ n : Nat, a = (n : Int) := ⟨a.toNat, by omega⟩
    exact jI_shl h0 h1) k
theorem sy_lor {a b : Int} {p : Program} {l : Launch} {e : Env} {R : Room} {s : State} {m : MethodId} {args : Array Value} {below : List Frame} {meth : Method} {c0 : Code} {H : Heap} {locs : List Loc} {cells slots : Nat} {Q : State → Prop} {D : va_G} {tys : List (ClassId × FieldType)} {own : String} {cc : ByteArray} {nL : Nat} {pc : Nat} {ls : Array Slot} {rest : List Value} (X : CX D tys own cc nL p m c0 s args) (m0 : Nat) (hd : decode cc pc = .ok (.lor, 1)) (ha : 0 ≤ a ∧ a < 2 ^ m0) (hb : ∃ t : Int, 0 ≤ t ∧ b = 2 ^ m0 * t) (hs : b + a < 18446744073709551616) (k : W p l e R s m args below meth c0 H locs cells slots Q (F0 m (pc + 1) ls (.long (jI (a + b)) :: rest))) : W p l e R s m args below meth c0 H locs cells slots Q (F0 m pc ls (.long (jI b) :: .long (jI a) :: rest)) :=
  lv_lor X.1.1 X.1.2.1 hd (by
    obtain ⟨t, ht, rfl⟩ := hb
    obtain ⟨n, rfl⟩ : ∃ n : Nat, a = (n : Int) := ⟨a.toNat, by omega⟩
    obtain ⟨t, rfl⟩ : ∃ n : Nat, t = (n : Int) := ⟨t.toNat, by omega⟩
    rw [p2c] at ha hs
    have e : jI (n : Int) ||| jI ((2 : Int) ^ m0 * (t : Int)) = jI ((n : Int) + (2 : Int) ^ m0 * (t : Int)) := by
      have := jI_or (a := n) (t := t) (m := m0) (by omega) (by rw [← Int.natCast_mul] at hs; omega)
      rw [Int.natCast_add, Int.natCast_mul, ← p2c] at this
      exact this
    rw [e]; exact k)
/-- a shift, limb by limb -/
theorem sr_eq (q : Int) {pl : Nat} (h : pl ≤ 32) : (q / 4294967296 % 4294967296 * 2 ^ (32 - pl)) % 4294967296 = 2 ^ (32 - pl) * (q / 4294967296 % 2 ^ pl) ∧ q % 4294967296 / 2 ^ pl + (q / 4294967296 % 4294967296 * 2 ^ (32 - pl)) % 4294967296 = q / 2 ^ pl % 4294967296 ∧ 0 ≤ q % 4294967296 / 2 ^ pl ∧ q % 4294967296 / 2 ^ pl < 2 ^ (32 - pl) := by
  have hP : (4294967296 : Int) = 2 ^ (32 - pl) * 2 ^ pl := by rw [← Int.pow_add, show 32 - pl + pl = 32 by omega]; rfl
  have hc := p2pos (32 - pl)
  have hd := p2pos pl
  have hx := Int.emod_nonneg q (show (4294967296 : Int) ≠ 0 by decide)
  have hx2 := Int.emod_lt_of_pos q (show (0 : Int) < 4294967296 by decide)
  have hqq := Int.emod_add_mul_ediv q 4294967296
  have h1 : (q / 4294967296 % 4294967296 * 2 ^ (32 - pl)) % 4294967296 = 2 ^ (32 - pl) * (q / 4294967296 % 2 ^ pl) := by
    generalize q / 4294967296 = y
    rw [Int.mul_emod, Int.emod_emod, ← Int.mul_emod, Int.mul_comm]
    generalize hc' : (2 : Int) ^ (32 - pl) = c at *
    generalize hd' : (2 : Int) ^ pl = d at *
    rw [hP, Int.mul_emod_mul_of_pos _ _ hc]
  have h2 : 0 ≤ q % 4294967296 / 2 ^ pl := Int.ediv_nonneg hx (Int.le_of_lt hd)
  have h3 : q % 4294967296 / 2 ^ pl < 2 ^ (32 - pl) := Int.ediv_lt_of_lt_mul hd (by rw [← hP]; exact hx2)
  refine ⟨h1, ?_, h2, h3⟩
  rw [h1]
  have e1 : q / 2 ^ pl = 2 ^ (32 - pl) * (q / 4294967296) + q % 4294967296 / 2 ^ pl := by
    have : q = q % 4294967296 + 2 ^ pl * (2 ^ (32 - pl) * (q / 4294967296)) := by
      rw [← Int.mul_assoc, Int.mul_comm (2 ^ pl), ← hP]; omega
    rw [show q / 2 ^ pl = (q % 4294967296 + 2 ^ pl * (2 ^ (32 - pl) * (q / 4294967296))) / 2 ^ pl by rw [← this], Int.add_mul_ediv_left _ _ (by omega)]
    omega
  rw [e1]
  generalize q % 4294967296 / 2 ^ pl = x1 at *
  generalize q / 4294967296 = y at *
  have e2 := Int.emod_add_mul_ediv y (2 ^ pl)
  have hm0 := Int.emod_nonneg y (show (2 : Int) ^ pl ≠ 0 by omega)
  have hm1 := Int.emod_lt_of_pos y hd
  generalize y % 2 ^ pl = ym at *
  generalize y / 2 ^ pl = yd at *
  have e3 : 2 ^ (32 - pl) * y + x1 = (x1 + 2 ^ (32 - pl) * ym) + 4294967296 * yd := by rw [← e2, hP]; grind
  rw [e3, Int.add_mul_emod_self_left]
  have hle : 2 ^ (32 - pl) * ym ≤ 2 ^ (32 - pl) * (2 ^ pl - 1) := Int.mul_le_mul_of_nonneg_left (by omega) (Int.le_of_lt hc)
  have hge : 0 ≤ 2 ^ (32 - pl) * ym := Int.mul_nonneg (Int.le_of_lt hc) hm0
  rw [Int.mul_sub, ← hP] at hle
  exact (Int.emod_eq_of_lt (by omega) (by omega)).symm
theorem sr_lim (z : Int) {pl : Nat} (i : Nat) (h : pl ≤ 32) : lim z i / 2 ^ pl + (lim z (i + 1) * 2 ^ (32 - pl)) % 4294967296 = lim (z / 2 ^ pl) i := by
  have hq := (sr_eq (z / 4294967296 ^ i) h).2.1
  have e1 : lim z (i + 1) = z / 4294967296 ^ i / 4294967296 % 4294967296 := by unfold lim; rw [P_succ, ← Int.ediv_ediv_of_nonneg (Int.le_of_lt (P_pos i))]
  have e2 : lim (z / 2 ^ pl) i = z / 4294967296 ^ i / 2 ^ pl % 4294967296 := by
    unfold lim; rw [Int.ediv_ediv_of_nonneg (Int.le_of_lt (p2pos pl)), Int.mul_comm, ← Int.ediv_ediv_of_nonneg (Int.le_of_lt (P_pos i))]
  rw [e1, e2, ← hq]; rfl
theorem sr_rng (z : Int) {pl : Nat} (i : Nat) (h : pl ≤ 32) : (0 ≤ lim z i / 2 ^ pl ∧ lim z i / 2 ^ pl < 2 ^ (32 - pl)) ∧ ∃ t : Int, 0 ≤ t ∧ (lim z (i + 1) * 2 ^ (32 - pl)) % 4294967296 = 2 ^ (32 - pl) * t := by
  have hq := sr_eq (z / 4294967296 ^ i) h
  have e1 : lim z (i + 1) = z / 4294967296 ^ i / 4294967296 % 4294967296 := by unfold lim; rw [P_succ, ← Int.ediv_ediv_of_nonneg (Int.le_of_lt (P_pos i))]
  rw [e1]
  exact ⟨hq.2.2, _, Int.emod_nonneg _ (by have := p2pos pl; omega), hq.1⟩
theorem lim5 {z : Int} (h : U160 z) : lim z 5 = 0 := by
  unfold lim; rw [Int.ediv_eq_zero_of_lt h.1 (by rw [P5]; exact h.2)]; rfl
set_option maxRecDepth 100000 in
set_option maxHeartbeats 4000000 in
theorem c_W_shiftRight (l : Launch) (D : va_G) (cs : Nat → ClassId) (ad : Nat → Nat → Nat) (z : Nat → Int) (a pl : Nat) (ha : a < 121) (hp : pl ≤ 32) (hr : U160 (z a)) : Ct (S := Unit) l D (tyL cs) y_W_shiftRight b_W_shiftRight 5 none (rm 1) [.ref (ad 0 a), .int (iI ((pl : Nat) : Int))] (wZ ad cs z) (fun _ => True) (fun _ => none) (fun _ => wZ ad cs (up1 z a (z a / 2 ^ pl))) := by
  refine Ct.introV (by decide) (Nat.le_of_ble_eq_true rfl) (fun _ => rfl) ?_
  intro p e s m below meth c A args Q H locs X hnm hw kr ls hl
  have X : CX D (tyL cs) R_W b_W_shiftRight 5 p m c s args := X
  have hl : lv_has ls 5 [(0, .ref (ad 0 a)), (1, .int (iI ((pl : Nat) : Int)))] := hl
  obtain ⟨V, hV⟩ : ∃ g : Nat → Nat → Int, g = fun k => lim (z k) := ⟨_, rfl⟩
  have hw : HW D A s.heap (wW ad cs V) H locs := by rw [hV]; exact hw
  have eV := upA_V hV a
  have ept : ((pl : Nat) : Int).toNat = pl := Int.toNat_natCast pl
  have ep2 : ((32 : Int) - ((pl : Nat) : Int)).toNat = 32 - pl := by omega
  refine sy_iconst X d_W_shiftRight_0 ?_
  refine sy_istore_n (lv1 := [(2, .int (iI 0)), (0, .ref (ad 0 a)), (1, .int (iI ((pl : Nat) : Int)))]) X d_W_shiftRight_1 hl rfl (by decide) rfl (fun ls hl => ?_)
  have key : ∀ (n : Nat) (i : Nat) (f : Nat → Int) (H : Heap) (locs : List Loc) (ls : Array Slot), i ≤ 5 → 5 < i + n → (∀ j, j < i → f j = lim (z a / 2 ^ pl) j) → (∀ j, i ≤ j → f j = lim (z a) j) → HW D A s.heap (wW ad cs (upA V a f)) H locs → lv_has ls 5 [(0, .ref (ad 0 a)), (1, .int (iI ((pl : Nat) : Int))), (2, .int (iI ((i : Nat) : Int)))] → W p l e (rm 1) s m args below meth c H locs 0 0 Q (F0 m 2 ls []) := by
    intro n
    induction n with
    | zero =>
      intro i f H locs ls h1 h2 h3 h4 hw hl
      exfalso; omega
    | succ n ih_key =>
      intro i f H locs ls h1 h2 h3 h4 hw hl
      refine sy_iload_n X d_W_shiftRight_2 hl 2 rfl ?_
      refine sy_iconst X d_W_shiftRight_3 ?_
      refine sy_icmp_ge (tgt := 58) X d_W_shiftRight_4 (by decide) ⟨by omega, by omega⟩ ⟨by omega, by omega⟩ (fun c1 => ?_) (fun c1 => ?_)
      · exact kr () _ _ _ _ d_W_shiftRight_58 (hw.fin hV (fun j hj => h3 j (by omega))) trivial
      · have km2 : ∀ (H : Heap) (locs : List Loc), HW D A s.heap (wW ad cs (upA V a f)) H locs → W p l e (rm 1) s m args below meth c H locs 0 0 Q (F0 m 26 ls [.long (jI (lim (z a) (i + 1)))]) := by
          intro H locs hw
          refine sy_lstore_n (lv1 := [(3, .long (jI (lim (z a) (i + 1)))), (0, .ref (ad 0 a)), (1, .int (iI ((pl : Nat) : Int))), (2, .int (iI ((i : Nat) : Int)))]) X d_W_shiftRight_26 hl rfl (by decide) rfl (fun ls hl => ?_)
          have hli := lim_rng (z a) i
          have hlj := lim_rng (z a) (i + 1)
          have hrg := sr_rng (z a) i hp
          refine sy_aload_n X d_W_shiftRight_27 hl 1 rfl ?_
          refine w_get X hw ha (tt_of k110 rfl) d_W_shiftRight_28 ?_
          refine sy_iload_n X d_W_shiftRight_31 hl 3 rfl ?_
          refine sy_aload_n X d_W_shiftRight_32 hl 1 rfl ?_
          refine w_get X hw ha (tt_of k110 rfl) d_W_shiftRight_33 ?_
          refine sy_iload_n X d_W_shiftRight_36 hl 3 rfl ?_
          refine w_ald X hw a i ha (by omega) (by omega) (lim (z a) i) (by rw [upA_s]; exact h4 _ (Nat.le_refl i)) d_W_shiftRight_37 ?_
          refine sy_iload_n X d_W_shiftRight_38 hl 2 rfl ?_
          refine sy_lushr X ((2 : Int) ^ pl) d_W_shiftRight_39 (by omega) (by omega) (by omega) (by omega) (by rw [ept]) ?_
          refine sy_lload_n X d_W_shiftRight_40 hl 0 rfl ?_
          refine sy_bipush X d_W_shiftRight_41 (by decide) ?_
          refine sy_iload_n X d_W_shiftRight_43 hl 2 rfl ?_
          refine sy_isub X d_W_shiftRight_44 ?_
          refine sy_lshl X d_W_shiftRight_45 (by omega) (by omega) (by omega) ?_
          rw [ep2]
          refine sy_ldc2 (z := 4294967295) X (tt_of k197 rfl) d_W_shiftRight_46 (by decide) ?_
          refine sy_land X 32 4294967296 d_W_shiftRight_49 (by decide) (by decide) (by decide) ?_
          have hmq := mq0 (lim (z a) (i + 1) * 2 ^ (32 - pl))
          have hpl : lim (z a) i / 2 ^ pl ≤ lim (z a) i := Int.ediv_le_self _ hli.1
          refine sy_lor X (32 - pl) d_W_shiftRight_50 hrg.1 hrg.2 (by omega) ?_
          refine w_ast X hw a i ha (by omega) (by omega) d_W_shiftRight_51 (fun H locs hw => ?_)
          rw [upA_s, upA_A] at hw
          obtain ⟨f1, ef1⟩ : ∃ g, g = up1 f i (((lim (z a) i) / 2 ^ pl) + (((lim (z a) (i + 1)) * 2 ^ (32 - pl)) % 4294967296)) := ⟨_, rfl⟩
          rw [← ef1] at hw
          refine sy_iinc (lv1 := [(2, .int (iI ((i + 1 : Nat) : Int))), (3, .long (jI (lim (z a) (i + 1)))), (0, .ref (ad 0 a)), (1, .int (iI ((pl : Nat) : Int)))]) X d_W_shiftRight_52 hl 3 rfl (by omega) (by decide) rfl (fun ls hl => ?_)
          refine sy_goto (tgt := 2) X d_W_shiftRight_55 (by decide) ?_
          exact ih_key (i + 1) f1 H locs ls (by omega) (by omega) (by rw [ef1]; exact eq_up h3 (sr_lim (z a) i hp)) (by rw [ef1]; exact al_up h4) hw (lv_sub hl [2, 3, 0] rfl)
        refine sy_iload_n X d_W_shiftRight_7 hl 2 rfl ?_
        refine sy_iconst X d_W_shiftRight_8 ?_
        refine sy_iadd X d_W_shiftRight_9 ?_
        refine sy_iconst X d_W_shiftRight_10 ?_
        refine sy_icmp_ge (tgt := 25) X d_W_shiftRight_11 (by decide) ⟨by omega, by omega⟩ ⟨by omega, by omega⟩ (fun c3 => ?_) (fun c3 => ?_)
        · refine sy_lconst (z := 0) X d_W_shiftRight_25 (by decide) ?_
          exact W_topl (by first | rfl | (rw [show i + 1 = 5 by omega]; exact lim5 hr)) (km2 H locs hw)
        · refine sy_aload_n X d_W_shiftRight_14 hl 0 rfl ?_
          refine w_get X hw ha (tt_of k110 rfl) d_W_shiftRight_15 ?_
          refine sy_iload_n X d_W_shiftRight_18 hl 2 rfl ?_
          refine sy_iconst X d_W_shiftRight_19 ?_
          refine sy_iadd X d_W_shiftRight_20 ?_
          refine w_ald X hw a (i + 1) ha (by omega) (by omega) (lim (z a) (i + 1)) (by rw [upA_s]; exact h4 _ (by omega)) d_W_shiftRight_21 ?_
          refine sy_goto (tgt := 26) X d_W_shiftRight_22 (by decide) ?_
          exact W_topl (by first | rfl | (rw [show i + 1 = 5 by omega]; exact lim5 hr)) (km2 H locs hw)
  rw [eV] at hw
  exact key 6 0 (lim (z a)) H locs ls (by omega) (by omega) (fun j hj => by omega) (fun j _ => rfl) hw (lv_sub hl [1, 2, 0] rfl)
