def R159 (x : Int) : Prop := -730750818665451459101842416358141509827966271488 ≤ x ∧ x < 730750818665451459101842416358141509827966271488
def U160 (x : Int) : Prop := 0 ≤ x ∧ x < 1461501637330902918203684832716283019655932542976
theorem P5 : (4294967296 : Int) ^ 5 = 1461501637330902918203684832716283019655932542976 := by decide
theorem lim4_pos {x : Int} (h0 : 0 ≤ x) (h1 : x < 730750818665451459101842416358141509827966271488) : lim x 4 < 2147483648 := by
  unfold lim
  have e : (4294967296 : Int) ^ 4 = 340282366920938463463374607431768211456 := by decide
  rw [e]; omega
theorem lim4_neg {x : Int} (h0 : x < 0) (h1 : -730750818665451459101842416358141509827966271488 ≤ x) : 2147483648 ≤ lim x 4 := by
  unfold lim
  have e : (4294967296 : Int) ^ 4 = 340282366920938463463374607431768211456 := by decide
  rw [e]; omega
theorem low5 {x : Int} (h : U160 x) : low x 5 = x := Int.emod_eq_of_lt h.1 (by rw [P5]; exact h.2)
theorem lcmp_dig {f g : Nat → Int} {j : Nat} (hf : Lb f (j + 1)) (hg : Lb g (j + 1)) : (f j < g j → vL f (j + 1) < vL g (j + 1)) ∧ (g j < f j → vL g (j + 1) < vL f (j + 1)) := by
  have a := vL_rng (u := j) (fun k hk => hf k (by omega))
  have b := vL_rng (u := j) (fun k hk => hg k (by omega))
  have hB := P_pos j
  simp only [vL]
  constructor
  · intro h
    have : (f j + 1) * 4294967296 ^ j ≤ g j * 4294967296 ^ j := Int.mul_le_mul_of_nonneg_right (by omega) (Int.le_of_lt hB)
    rw [Int.add_mul] at this; omega
  · intro h
    have : (g j + 1) * 4294967296 ^ j ≤ f j * 4294967296 ^ j := Int.mul_le_mul_of_nonneg_right (by omega) (Int.le_of_lt hB)
    rw [Int.add_mul] at this; omega
theorem lim_bit (z : Int) (j k : Nat) (hk : k < 32) : lim z j / 2 ^ k % 2 = z / 2 ^ (32 * j + k) % 2 := by
  unfold lim
  have e1 : (4294967296 : Int) ^ j = 2 ^ (32 * j) := by rw [Int.pow_mul]; rfl
  rw [e1, Int.pow_add, ← Int.ediv_ediv_of_nonneg (Int.le_of_lt (p2pos _))]
  generalize z / 2 ^ (32 * j) = q
  have e3 : (4294967296 : Int) = 2 ^ k * (2 * 2 ^ (31 - k)) := by
    rw [← Int.mul_assoc, Int.mul_comm (2 ^ k) 2, Int.mul_assoc, ← Int.pow_add, show k + (31 - k) = 31 by omega]; rfl
  have e4 : q % 4294967296 / 2 ^ k = q / 2 ^ k % (2 * 2 ^ (31 - k)) := by
    rw [e3, Int.emod_def q, Int.emod_def (q / 2 ^ k), ← Int.ediv_ediv_of_nonneg (Int.le_of_lt (p2pos k)), Int.sub_eq_add_neg, Int.mul_assoc, ← Int.mul_neg, Int.add_mul_ediv_left _ _ (by have := p2pos k; omega)]
    omega
  rw [e4, Int.emod_emod_of_dvd _ ⟨_, rfl⟩]
theorem bit_lt {V : Int} {n : Nat} (h0 : 0 ≤ V) (hlt : V < 2 ^ (n + 1)) : (V / 2 ^ n % 2 = 0 → V < 2 ^ n) ∧ (V / 2 ^ n % 2 ≠ 0 → 2 ^ n ≤ V) := by
  have hp := p2pos n
  have hlt2 : V / 2 ^ n < 2 := Int.ediv_lt_of_lt_mul hp (by rw [Int.pow_succ] at hlt; omega)
  have hge : 0 ≤ V / 2 ^ n := Int.ediv_nonneg h0 (Int.le_of_lt hp)
  constructor
  · intro h
    have hz : V / 2 ^ n = 0 := by omega
    have := Int.lt_mul_ediv_self_add (x := V) hp
    rw [hz] at this; omega
  · intro h
    have h1 : 1 ≤ V / 2 ^ n := by omega
    have := Int.mul_le_of_le_ediv hp h1
    omega
theorem tz_step {V : Int} {n : Nat} (h : V % 2 ^ n = 0) (g : V / 2 ^ n % 2 = 0) : V % 2 ^ (n + 1) = 0 := by
  have e1 := Int.emod_add_mul_ediv V (2 ^ n)
  have e2 := Int.emod_add_mul_ediv (V / 2 ^ n) 2
  rw [h] at e1
  rw [g] at e2
  rw [← e1, ← e2, Int.pow_succ, Int.zero_add, Int.zero_add, ← Int.mul_assoc]
  exact Int.mul_emod_right _ _
set_option maxRecDepth 100000 in
set_option maxHeartbeats 4000000 in
theorem c_W_side (l : Launch) (D : va_G) (cs : Nat → ClassId) (ad : Nat → Nat → Nat) (z : Nat → Int) (a : Nat) (ha : a < 121) (hr : R159 (z a)) : Ct (S := Unit) l D (tyL cs) y_W_side b_W_side 2 (some .int) (rm 1) [.ref (ad 0 a)] (wZ ad cs z) (fun _ => True) (fun _ => some (.int (iI (z a).sign))) (fun _ => wZ ad cs z) := by
  refine Ct.introI (by decide) (Nat.le_of_ble_eq_true rfl) ?_
  intro p e s m below meth c A args Q H locs X hnm hw kr ls hl
  have X : CX D (tyL cs) R_W b_W_side 2 p m c s args := X
  have hl : lv_has ls 2 [(0, .ref (ad 0 a))] := hl
  obtain ⟨V, hV⟩ : ∃ g : Nat → Nat → Int, g = fun k => lim (z k) := ⟨_, rfl⟩
  have hw : HW D A s.heap (wW ad cs V) H locs := by rw [hV]; exact hw
  have hr1 := hr.1
  have hr2 := hr.2
  have hl4 := lim_rng (z a) 4
  refine sy_aload_n X d_W_side_0 hl 0 rfl ?_
  refine w_get X hw ha (tt_of k110 rfl) d_W_side_1 ?_
  refine sy_iconst X d_W_side_4 ?_
  refine w_ald X hw a 4 ha (by omega) (by omega) (lim (z a) 4) (by rw [hV]) d_W_side_5 ?_
  refine sy_ldc2 (z := 2147483648) X (tt_of k410 rfl) d_W_side_6 (by decide) ?_
  refine sy_lcif_lt (tgt := 15) X d_W_side_9 d_W_side_10 (by decide) ⟨by omega, by omega⟩ ⟨by omega, by omega⟩ (fun c1 => ?_) (fun c1 => ?_)
  · have hz0 : 0 ≤ z a := by
      rcases Int.lt_or_le (z a) 0 with h | h
      · have := lim4_neg h hr.1; omega
      · exact h
    have hzv : vL (lim (z a)) 5 = z a := by rw [vL_lim]; exact low5 ⟨hz0, by omega⟩
    refine sy_iconst X d_W_side_15 ?_
    refine sy_istore_n (lv1 := [(1, .int (iI 0)), (0, .ref (ad 0 a))]) X d_W_side_16 hl rfl (by decide) rfl (fun ls hl => ?_)
    have key : ∀ (n : Nat) (i : Nat) (H : Heap) (locs : List Loc) (ls : Array Slot), i ≤ 5 → 5 < i + n → (∀ j, j < i → lim (z a) j = 0) → HW D A s.heap (wW ad cs V) H locs → lv_has ls 2 [(0, .ref (ad 0 a)), (1, .int (iI ((i : Nat) : Int)))] → W p l e (rm 1) s m args below meth c H locs 0 0 Q (F0 m 17 ls []) := by
      intro n
      induction n with
      | zero =>
        intro i H locs ls h1 h2 h3 hw hl
        exfalso; omega
      | succ n ih_key =>
        intro i H locs ls h1 h2 h3 hw hl
        refine sy_iload_n X d_W_side_17 hl 1 rfl ?_
        refine sy_iconst X d_W_side_18 ?_
        refine sy_icmp_ge (tgt := 41) X d_W_side_19 (by decide) ⟨by omega, by omega⟩ ⟨by omega, by omega⟩ (fun c2 => ?_) (fun c2 => ?_)
        · refine sy_iconst X d_W_side_41 ?_
          have hi : i = 5 := by omega
          rw [hi] at h3
          have hz : z a = 0 := by rw [← hzv]; simp [vL, h3 0 (by decide), h3 1 (by decide), h3 2 (by decide), h3 3 (by decide), h3 4 (by decide)]
          exact kr () _ _ _ _ _ d_W_side_42 (by rw [hV] at hw; exact hw) trivial (by rw [sgn_0 hz])
        · refine sy_aload_n X d_W_side_22 hl 0 rfl ?_
          refine w_get X hw ha (tt_of k110 rfl) d_W_side_23 ?_
          refine sy_iload_n X d_W_side_26 hl 1 rfl ?_
          refine w_ald X hw a i ha (by omega) (by omega) (lim (z a) i) (by rw [hV]) d_W_side_27 ?_
          have hli := lim_rng (z a) i
          refine sy_lconst (z := 0) X d_W_side_28 (by decide) ?_
          refine sy_lcif_eq (tgt := 35) X d_W_side_29 d_W_side_30 (by decide) ⟨by omega, by omega⟩ ⟨by omega, by omega⟩ (fun c4 => ?_) (fun c4 => ?_)
          · refine sy_iinc (lv1 := [(1, .int (iI ((i + 1 : Nat) : Int))), (0, .ref (ad 0 a))]) X d_W_side_35 hl 1 rfl (by omega) (by decide) rfl (fun ls hl => ?_)
            refine sy_goto (tgt := 17) X d_W_side_38 (by decide) ?_
            exact ih_key (i + 1) H locs ls (by omega) (by omega) (fun j hj => by by_cases e : j = i; rw [e]; assumption; exact h3 j (by omega)) hw (lv_sub hl [1, 0] rfl)
          · refine sy_iconst X d_W_side_33 ?_
            have hzp : 0 < z a := by
              rcases Int.lt_trichotomy (z a) 0 with h | h | h
              · omega
              · exfalso; rw [h] at hli c4; unfold lim at c4; simp at c4
              · exact h
            exact kr () _ _ _ _ _ d_W_side_34 (by rw [hV] at hw; exact hw) trivial (by rw [sgn_pos hzp])
    exact key 6 0 H locs ls (by omega) (by omega) (fun j hj => by omega) hw (lv_sub hl [1, 0] rfl)
  · refine sy_iconst X d_W_side_13 ?_
    have hz0 : z a < 0 := by
      rcases Int.lt_or_le (z a) 0 with h | h
      · exact h
      · have := lim4_pos h hr.2; omega
    exact kr () _ _ _ _ _ d_W_side_14 (by rw [hV] at hw; exact hw) trivial (by rw [sgn_neg hz0])
set_option maxRecDepth 100000 in
set_option maxHeartbeats 4000000 in
theorem c_W_order (l : Launch) (D : va_G) (cs : Nat → ClassId) (ad : Nat → Nat → Nat) (z : Nat → Int) (a b : Nat) (ha : a < 121) (hb : b < 121) (hra : U160 (z a)) (hrb : U160 (z b)) : Ct (S := Unit) l D (tyL cs) y_W_order b_W_order 3 (some .int) (rm 1) [.ref (ad 0 a), .ref (ad 0 b)] (wZ ad cs z) (fun _ => True) (fun _ => some (.int (iI (z a - z b).sign))) (fun _ => wZ ad cs z) := by
  refine Ct.introI (by decide) (Nat.le_of_ble_eq_true rfl) ?_
  intro p e s m below meth c A args Q H locs X hnm hw kr ls hl
  have X : CX D (tyL cs) R_W b_W_order 3 p m c s args := X
  have hl : lv_has ls 3 [(0, .ref (ad 0 a)), (1, .ref (ad 0 b))] := hl
  obtain ⟨V, hV⟩ : ∃ g : Nat → Nat → Int, g = fun k => lim (z k) := ⟨_, rfl⟩
  have hw : HW D A s.heap (wW ad cs V) H locs := by rw [hV]; exact hw
  have hza : vL (lim (z a)) 5 = z a := by rw [vL_lim]; exact low5 hra
  have hzb : vL (lim (z b)) 5 = z b := by rw [vL_lim]; exact low5 hrb
  refine sy_iconst X d_W_order_0 ?_
  refine sy_istore_n (lv1 := [(2, .int (iI 4)), (0, .ref (ad 0 a)), (1, .ref (ad 0 b))]) X d_W_order_1 hl rfl (by decide) rfl (fun ls hl => ?_)
  have key : ∀ (n : Nat) (g0 : Nat) (H : Heap) (locs : List Loc) (ls : Array Slot), g0 ≤ 5 → g0 < n → vL (lim (z a)) g0 - vL (lim (z b)) g0 = z a - z b → HW D A s.heap (wW ad cs V) H locs → lv_has ls 3 [(0, .ref (ad 0 a)), (1, .ref (ad 0 b)), (2, .int (iI ((g0 : Int) - 1)))] → W p l e (rm 1) s m args below meth c H locs 0 0 Q (F0 m 2 ls []) := by
    intro n
    induction n with
    | zero =>
      intro g0 H locs ls h1 h2 h3 hw hl
      exfalso; omega
    | succ n ih_key =>
      intro g0 H locs ls h1 h2 h3 hw hl
      refine sy_iload_n X d_W_order_2 hl 2 rfl ?_
      refine sy_if_lt (tgt := 50) X d_W_order_3 (by decide) ⟨by omega, by omega⟩ (fun c1 => ?_) (fun c1 => ?_)
      · refine sy_iconst X d_W_order_50 ?_
        exact kr () _ _ _ _ _ d_W_order_51 (by rw [hV] at hw; exact hw) trivial (by rw [sgn_0 (v := z a - z b) (by rw [← h3, show g0 = 0 by omega]; rfl)])
      · rw [show ((g0 : Int) - 1) = ((g0 - 1 : Nat) : Int) by omega] at hl
        have hbx := lim_rng (z a) (g0 - 1)
        have hby := lim_rng (z b) (g0 - 1)
        refine sy_aload_n X d_W_order_6 hl 0 rfl ?_
        refine w_get X hw ha (tt_of k110 rfl) d_W_order_7 ?_
        refine sy_iload_n X d_W_order_10 hl 2 rfl ?_
        refine w_ald X hw a (g0 - 1) ha (by omega) (by omega) (lim (z a) (g0 - 1)) (by rw [hV]) d_W_order_11 ?_
        refine sy_aload_n X d_W_order_12 hl 1 rfl ?_
        refine w_get X hw hb (tt_of k110 rfl) d_W_order_13 ?_
        refine sy_iload_n X d_W_order_16 hl 2 rfl ?_
        refine w_ald X hw b (g0 - 1) hb (by omega) (by omega) (lim (z b) (g0 - 1)) (by rw [hV]) d_W_order_17 ?_
        refine sy_lcif_eq (tgt := 44) X d_W_order_18 d_W_order_19 (by decide) ⟨by omega, by omega⟩ ⟨by omega, by omega⟩ (fun c2 => ?_) (fun c2 => ?_)
        · have h31 : vL (lim (z a)) (g0 - 1) - vL (lim (z b)) (g0 - 1) = z a - z b := by
            rw [← h3]
            obtain ⟨t, rfl⟩ : ∃ t, g0 = t + 1 := ⟨g0 - 1, by omega⟩
            simp only [Nat.add_sub_cancel] at *
            simp only [vL]
            rw [show lim (z a) t = lim (z b) t by omega]; omega
          refine sy_iinc (lv1 := [(2, .int (iI (((g0 - 1 : Nat) : Int) + (-1)))), (0, .ref (ad 0 a)), (1, .ref (ad 0 b))]) X d_W_order_44 hl 2 rfl (by omega) (by decide) rfl (fun ls hl => ?_)
          refine sy_goto (tgt := 2) X d_W_order_47 (by decide) ?_
          rw [show (((g0 - 1 : Nat) : Int) + (-1)) = (((g0 - 1 : Nat) : Int) - 1) by omega] at hl
          exact ih_key (g0 - 1) H locs ls (by omega) (by omega) h31 hw (lv_sub hl [1, 2, 0] rfl)
        · have hcd := lcmp_dig (f := lim (z a)) (g := lim (z b)) (j := g0 - 1) (fun k _ => lim_rng _ k) (fun k _ => lim_rng _ k)
          rw [show g0 - 1 + 1 = g0 by omega] at hcd
          have hlo : lim (z a) (g0 - 1) < lim (z b) (g0 - 1) → (z a - z b).sign = -1 := fun h => sgn_neg (by have := hcd.1 h; omega)
          have hhi : lim (z b) (g0 - 1) < lim (z a) (g0 - 1) → (z a - z b).sign = 1 := fun h => sgn_pos (by have := hcd.2 h; omega)
          refine sy_aload_n X d_W_order_22 hl 0 rfl ?_
          refine w_get X hw ha (tt_of k110 rfl) d_W_order_23 ?_
          refine sy_iload_n X d_W_order_26 hl 2 rfl ?_
          refine w_ald X hw a (g0 - 1) ha (by omega) (by omega) (lim (z a) (g0 - 1)) (by rw [hV]) d_W_order_27 ?_
          refine sy_aload_n X d_W_order_28 hl 1 rfl ?_
          refine w_get X hw hb (tt_of k110 rfl) d_W_order_29 ?_
          refine sy_iload_n X d_W_order_32 hl 2 rfl ?_
          refine w_ald X hw b (g0 - 1) hb (by omega) (by omega) (lim (z b) (g0 - 1)) (by rw [hV]) d_W_order_33 ?_
          refine sy_lcif_ge (tgt := 42) X d_W_order_34 d_W_order_35 (by decide) ⟨by omega, by omega⟩ ⟨by omega, by omega⟩ (fun c3 => ?_) (fun c3 => ?_)
          · refine sy_iconst X d_W_order_42 ?_
            exact kr () _ _ _ _ _ d_W_order_43 (by rw [hV] at hw; exact hw) trivial (by first | (rw [hlo (by omega)]) | (rw [hhi (by omega)]))
          · refine sy_iconst X d_W_order_38 ?_
            refine sy_goto (tgt := 43) X d_W_order_39 (by decide) ?_
            exact kr () _ _ _ _ _ d_W_order_43 (by rw [hV] at hw; exact hw) trivial (by first | (rw [hlo (by omega)]) | (rw [hhi (by omega)]))
  exact key 6 5 H locs ls (by omega) (by omega) (by rw [hza, hzb]) hw (lv_sub hl [1, 2, 0] rfl)
set_option maxRecDepth 100000 in
set_option maxHeartbeats 4000000 in
theorem c_W_hasBit (l : Launch) (D : va_G) (cs : Nat → ClassId) (ad : Nat → Nat → Nat) (z : Nat → Int) (a i : Nat) (ha : a < 121) (hi : i < 160) : Ct (S := Unit) l D (tyL cs) y_W_hasBit b_W_hasBit 2 (some .boolean) (rm 1) [.ref (ad 0 a), .int (iI ((i : Nat) : Int))] (wZ ad cs z) (fun _ => True) (fun _ => some (.int (iI (if z a / 2 ^ i % 2 ≠ 0 then 1 else 0)))) (fun _ => wZ ad cs z) := by
  refine Ct.introZ (by decide) (Nat.le_of_ble_eq_true rfl) ?_
  intro p e s m below meth c A args Q H locs X hnm hw kr ls hl
  have X : CX D (tyL cs) R_W b_W_hasBit 2 p m c s args := X
  have hl : lv_has ls 2 [(0, .ref (ad 0 a)), (1, .int (iI ((i : Nat) : Int)))] := hl
  obtain ⟨V, hV⟩ : ∃ g : Nat → Nat → Int, g = fun k => lim (z k) := ⟨_, rfl⟩
  have hw : HW D A s.heap (wW ad cs V) H locs := by rw [hV]; exact hw
  have hli := lim_rng (z a) (i / 32)
  have hbt := lim_bit (z a) (i / 32) (i % 32) (by omega)
  rw [show 32 * (i / 32) + i % 32 = i by omega] at hbt
  refine sy_aload_n X d_W_hasBit_0 hl 0 rfl ?_
  refine w_get X hw ha (tt_of k110 rfl) d_W_hasBit_1 ?_
  refine sy_iload_n X d_W_hasBit_4 hl 1 rfl ?_
  refine sy_bipush X d_W_hasBit_5 (by decide) ?_
  refine sy_idivN X d_W_hasBit_7 (by omega) (by omega) (by decide) ?_
  refine w_ald X hw a (i / 32) ha (by omega) (by omega) (lim (z a) (i / 32)) (by rw [hV]) d_W_hasBit_8 ?_
  refine sy_iload_n X d_W_hasBit_9 hl 1 rfl ?_
  refine sy_bipush X d_W_hasBit_10 (by decide) ?_
  refine sy_iremN X d_W_hasBit_12 (by omega) (by omega) (by decide) ?_
  rw [show ((i : Nat) : Int) % 32 = ((i % 32 : Nat) : Int) by omega]
  refine sy_lshr X ((2 : Int) ^ ((i % 32 : Nat) : Int).toNat) d_W_hasBit_13 ⟨by omega, by omega⟩ (by omega) (by omega) rfl ?_
  refine sy_lconst (z := 1) X d_W_hasBit_14 (by decide) ?_
  refine sy_land X 1 2 d_W_hasBit_15 (by decide) (by decide) (by decide) ?_
  refine sy_lconst (z := 0) X d_W_hasBit_16 (by decide) ?_
  have ebt : (((i % 32 : Nat) : Int)).toNat = i % 32 := Int.toNat_natCast _
  rw [ebt, hbt]
  have hbb : 0 ≤ z a / 2 ^ i % 2 ∧ z a / 2 ^ i % 2 < 2 := ⟨Int.emod_nonneg _ (by decide), Int.emod_lt_of_pos _ (by decide)⟩
  refine sy_lcif_eq (tgt := 25) X d_W_hasBit_17 d_W_hasBit_18 (by decide) ⟨by omega, by omega⟩ ⟨by omega, by omega⟩ (fun c1 => ?_) (fun c1 => ?_)
  · refine sy_iconst X d_W_hasBit_25 ?_
    exact kr () _ _ _ _ _ d_W_hasBit_26 (by rw [hV] at hw; exact hw) trivial (by split <;> first | rfl | (exfalso; omega)) (by decide)
  · refine sy_iconst X d_W_hasBit_21 ?_
    refine sy_goto (tgt := 26) X d_W_hasBit_22 (by decide) ?_
    exact kr () _ _ _ _ _ d_W_hasBit_26 (by rw [hV] at hw; exact hw) trivial (by split <;> first | rfl | (exfalso; omega)) (by decide)
set_option maxRecDepth 100000 in
set_option maxHeartbeats 4000000 in
theorem c_W_length (l : Launch) (D : va_G) (cs : Nat → ClassId) (ad : Nat → Nat → Nat) (z : Nat → Int) (a : Nat) (ha : a < 121) (hr : U160 (z a)) : Ct (S := Nat) l D (tyL cs) y_W_length b_W_length 2 (some .int) (rm 2) [.ref (ad 0 a)] (wZ ad cs z) (fun r => BL (z a) r) (fun r => some (.int (iI ((r : Nat) : Int)))) (fun _ => wZ ad cs z) := by
  refine Ct.introI (by decide) (Nat.le_of_ble_eq_true rfl) ?_
  intro p e s m below meth c A args Q H locs X hnm hw kr ls hl
  have X : CX D (tyL cs) R_W b_W_length 2 p m c s args := X
  have hl : lv_has ls 2 [(0, .ref (ad 0 a))] := hl
  obtain ⟨V, hV⟩ : ∃ g : Nat → Nat → Int, g = fun k => lim (z k) := ⟨_, rfl⟩
  have hw : HW D A s.heap (wW ad cs V) H locs := by rw [hV]; exact hw
  have hw : HW D A s.heap (wZ ad cs z) H locs := by rw [hV] at hw; exact hw
  have hr1 := hr.1
  have hr2 := hr.2
  have hzz : ((z a).natAbs : Int) = z a := by omega
  refine sy_sipush X d_W_length_0 (by decide) ?_
  refine sy_istore_n (lv1 := [(1, .int (iI 160)), (0, .ref (ad 0 a))]) X d_W_length_3 hl rfl (by decide) rfl (fun ls hl => ?_)
  have key : ∀ (n : Nat) (r : Nat) (H : Heap) (locs : List Loc) (ls : Array Slot), r ≤ 160 → r < n → z a < 2 ^ r → HW D A s.heap (wZ ad cs z) H locs → lv_has ls 2 [(0, .ref (ad 0 a)), (1, .int (iI ((r : Nat) : Int)))] → W p l e (rm 2) s m args below meth c H locs 0 0 Q (F0 m 4 ls []) := by
    intro n
    induction n with
    | zero =>
      intro r H locs ls h1 h2 h3 hw hl
      exfalso; omega
    | succ n ih_key =>
      intro r H locs ls h1 h2 h3 hw hl
      refine sy_iload_n X d_W_length_4 hl 1 rfl ?_
      refine sy_if_le (tgt := 24) X d_W_length_5 (by decide) ⟨by omega, by omega⟩ (fun c1 => ?_) (fun c1 => ?_)
      · refine sy_iload_n X d_W_length_24 hl 1 rfl ?_
        exact kr r _ _ _ _ _ d_W_length_25 hw ⟨by rw [hzz]; exact h3, by rw [hzz]; first | exact Or.inl (by omega) | exact Or.inr (hst.2 cb)⟩ rfl
      · refine sy_aload_n X d_W_length_8 hl 0 rfl ?_
        refine sy_iload_n X d_W_length_9 hl 1 rfl ?_
        refine sy_iconst X d_W_length_10 ?_
        refine sy_isub X d_W_length_11 ?_
        rw [show ((r : Nat) : Int) - 1 = ((r - 1 : Nat) : Int) by omega]
        have hst := bit_lt (V := z a) (n := r - 1) hr.1 (by rw [show r - 1 + 1 = r by omega]; exact h3)
        refine call_Vi (Xs := []) (b := ad 0 a) (As := [.int (iI ((r - 1 : Nat) : Int))]) (rest := []) X lk_W_36 (c_W_hasBit l D cs ad z a (r - 1) ha (by omega)) ⟨by decide, by decide⟩ (rcv_W ha) hw rfl hl.1 (Nat.le_of_ble_eq_true rfl) d_W_length_12 rfl rfl ⟨Nat.zero_le _, Nat.zero_le _⟩ (fun _ H locs _ hw => ?_)
        refine sy_ifb_ne (tgt := 24) X d_W_length_15 (by decide) (fun cb => ?_) (fun cb => ?_)
        · refine sy_iload_n X d_W_length_24 hl 1 rfl ?_
          exact kr r _ _ _ _ _ d_W_length_25 hw ⟨by rw [hzz]; exact h3, by rw [hzz]; first | exact Or.inl (by omega) | exact Or.inr (hst.2 cb)⟩ rfl
        · have hz : z a < 2 ^ (r - 1) := hst.1 (by omega)
          refine sy_iinc (lv1 := [(1, .int (iI (((r : Nat) : Int) + (-1)))), (0, .ref (ad 0 a))]) X d_W_length_18 hl 1 rfl (by omega) (by decide) rfl (fun ls hl => ?_)
          refine sy_goto (tgt := 4) X d_W_length_21 (by decide) ?_
          rw [show ((r : Nat) : Int) + (-1) = ((r - 1 : Nat) : Int) by omega] at hl
          exact ih_key (r - 1) H locs ls (by omega) (by omega) hz hw (lv_sub hl [1, 0] rfl)
  exact key 161 160 H locs ls (by omega) (by omega) (by rw [show (2 : Int) ^ 160 = 1461501637330902918203684832716283019655932542976 by decide]; exact hr.2) hw (lv_sub hl [1, 0] rfl)
set_option maxRecDepth 100000 in
set_option maxHeartbeats 4000000 in
theorem c_W_limb (l : Launch) (D : va_G) (cs : Nat → ClassId) (ad : Nat → Nat → Nat) (z : Nat → Int) (a i : Nat) (ha : a < 121) (hi : i < 32) (hr : U160 (z a)) : Ct (S := Unit) l D (tyL cs) y_W_limb b_W_limb 2 (some .long) (rm 1) [.ref (ad 0 a), .int (iI ((i : Nat) : Int))] (wZ ad cs z) (fun _ => True) (fun _ => some (.long (jI (z a / 2 ^ (32 * i) % 4294967296)))) (fun _ => wZ ad cs z) := by
  refine Ct.introJ (by decide) (Nat.le_of_ble_eq_true rfl) ?_
  intro p e s m below meth c A args Q H locs X hnm hw kr ls hl
  have X : CX D (tyL cs) R_W b_W_limb 2 p m c s args := X
  have hl : lv_has ls 2 [(0, .ref (ad 0 a)), (1, .int (iI ((i : Nat) : Int)))] := hl
  obtain ⟨V, hV⟩ : ∃ g : Nat → Nat → Int, g = fun k => lim (z k) := ⟨_, rfl⟩
  have hw : HW D A s.heap (wW ad cs V) H locs := by rw [hV]; exact hw
  have hr1 := hr.1
  have hr2 := hr.2
  have e1 : (4294967296 : Int) ^ i = 2 ^ (32 * i) := by rw [Int.pow_mul]; rfl
  refine sy_iload_n X d_W_limb_0 hl 1 rfl ?_
  refine sy_if_lt (tgt := 18) X d_W_limb_1 (by decide) ⟨by omega, by omega⟩ (fun c1 => ?_) (fun c1 => ?_)
  · refine sy_lconst (z := 0) X d_W_limb_18 (by decide) ?_
    have hz : z a / 2 ^ (32 * i) % 4294967296 = 0 := by
      have h5 : (2 : Int) ^ 160 ≤ 2 ^ (32 * i) := p2le (by omega)
      rw [show (2 : Int) ^ 160 = 1461501637330902918203684832716283019655932542976 by decide] at h5
      rw [Int.ediv_eq_zero_of_lt hr.1 (by omega)]; rfl
    exact kr () _ _ _ _ _ d_W_limb_19 (by rw [hV] at hw; exact hw) trivial (by rw [hz])
  · refine sy_iload_n X d_W_limb_4 hl 1 rfl ?_
    refine sy_iconst X d_W_limb_5 ?_
    refine sy_icmp_ge (tgt := 18) X d_W_limb_6 (by decide) ⟨by omega, by omega⟩ ⟨by omega, by omega⟩ (fun c2 => ?_) (fun c2 => ?_)
    · refine sy_lconst (z := 0) X d_W_limb_18 (by decide) ?_
      have hz : z a / 2 ^ (32 * i) % 4294967296 = 0 := by
        have h5 : (2 : Int) ^ 160 ≤ 2 ^ (32 * i) := p2le (by omega)
        rw [show (2 : Int) ^ 160 = 1461501637330902918203684832716283019655932542976 by decide] at h5
        rw [Int.ediv_eq_zero_of_lt hr.1 (by omega)]; rfl
      exact kr () _ _ _ _ _ d_W_limb_19 (by rw [hV] at hw; exact hw) trivial (by rw [hz])
    · refine sy_aload_n X d_W_limb_9 hl 0 rfl ?_
      refine w_get X hw ha (tt_of k110 rfl) d_W_limb_10 ?_
      refine sy_iload_n X d_W_limb_13 hl 1 rfl ?_
      refine w_ald X hw a i ha (by omega) (by omega) (z a / 2 ^ (32 * i) % 4294967296) (by rw [hV, ← e1]; rfl) d_W_limb_14 ?_
      refine sy_goto (tgt := 19) X d_W_limb_15 (by decide) ?_
      exact kr () _ _ _ _ _ d_W_limb_19 (by rw [hV] at hw; exact hw) trivial rfl
set_option maxRecDepth 100000 in
set_option maxHeartbeats 4000000 in
theorem c_W_lowZeros (l : Launch) (D : va_G) (cs : Nat → ClassId) (ad : Nat → Nat → Nat) (z : Nat → Int) (a : Nat) (ha : a < 121) : Ct (S := Nat) l D (tyL cs) y_W_lowZeros b_W_lowZeros 2 (some .int) (rm 1) [.ref (ad 0 a)] (wZ ad cs z) (fun r => r ≤ 32 ∧ z a % 2 ^ r = 0 ∧ (r = 32 ∨ z a / 2 ^ r % 2 = 1)) (fun r => some (.int (iI ((r : Nat) : Int)))) (fun _ => wZ ad cs z) := by
  refine Ct.introI (by decide) (Nat.le_of_ble_eq_true rfl) ?_
  intro p e s m below meth c A args Q H locs X hnm hw kr ls hl
  have X : CX D (tyL cs) R_W b_W_lowZeros 2 p m c s args := X
  have hl : lv_has ls 2 [(0, .ref (ad 0 a))] := hl
  obtain ⟨V, hV⟩ : ∃ g : Nat → Nat → Int, g = fun k => lim (z k) := ⟨_, rfl⟩
  have hw : HW D A s.heap (wW ad cs V) H locs := by rw [hV]; exact hw
  have hl0 := lim_rng (z a) 0
  refine sy_iconst X d_W_lowZeros_0 ?_
  refine sy_istore_n (lv1 := [(1, .int (iI 0)), (0, .ref (ad 0 a))]) X d_W_lowZeros_1 hl rfl (by decide) rfl (fun ls hl => ?_)
  have key : ∀ (n : Nat) (r : Nat) (H : Heap) (locs : List Loc) (ls : Array Slot), r ≤ 32 → 32 < r + n → z a % 2 ^ r = 0 → HW D A s.heap (wW ad cs V) H locs → lv_has ls 2 [(0, .ref (ad 0 a)), (1, .int (iI ((r : Nat) : Int)))] → W p l e (rm 1) s m args below meth c H locs 0 0 Q (F0 m 2 ls []) := by
    intro n
    induction n with
    | zero =>
      intro r H locs ls h1 h2 h3 hw hl
      exfalso; omega
    | succ n ih_key =>
      intro r H locs ls h1 h2 h3 hw hl
      refine sy_iload_n X d_W_lowZeros_2 hl 1 rfl ?_
      refine sy_bipush X d_W_lowZeros_3 (by decide) ?_
      refine sy_icmp_ge (tgt := 29) X d_W_lowZeros_5 (by decide) ⟨by omega, by omega⟩ ⟨by omega, by omega⟩ (fun c1 => ?_) (fun c1 => ?_)
      · refine sy_iload_n X d_W_lowZeros_29 hl 1 rfl ?_
        exact kr r _ _ _ _ _ d_W_lowZeros_30 (by rw [hV] at hw; exact hw) ⟨h1, h3, by omega⟩ rfl
      · refine sy_aload_n X d_W_lowZeros_8 hl 0 rfl ?_
        refine w_get X hw ha (tt_of k110 rfl) d_W_lowZeros_9 ?_
        refine sy_iconst X d_W_lowZeros_12 ?_
        refine w_ald X hw a 0 ha (by omega) (by omega) (lim (z a) 0) (by rw [hV]) d_W_lowZeros_13 ?_
        refine sy_iload_n X d_W_lowZeros_14 hl 1 rfl ?_
        have hbt := lim_bit (z a) 0 r (by omega)
        rw [show 32 * 0 + r = r by omega] at hbt
        refine sy_lshr X ((2 : Int) ^ ((r : Nat) : Int).toNat) d_W_lowZeros_15 ⟨by omega, by omega⟩ (by omega) (by omega) rfl ?_
        refine sy_lconst (z := 1) X d_W_lowZeros_16 (by decide) ?_
        refine sy_land X 1 2 d_W_lowZeros_17 (by decide) (by decide) (by decide) ?_
        refine sy_lconst (z := 0) X d_W_lowZeros_18 (by decide) ?_
        have ebt : (((r : Nat) : Int)).toNat = r := Int.toNat_natCast _
        rw [ebt, hbt]
        have hbb : 0 ≤ z a / 2 ^ r % 2 ∧ z a / 2 ^ r % 2 < 2 := ⟨Int.emod_nonneg _ (by decide), Int.emod_lt_of_pos _ (by decide)⟩
        refine sy_lcif_ne (tgt := 29) X d_W_lowZeros_19 d_W_lowZeros_20 (by decide) ⟨by omega, by omega⟩ ⟨by omega, by omega⟩ (fun c2 => ?_) (fun c2 => ?_)
        · refine sy_iload_n X d_W_lowZeros_29 hl 1 rfl ?_
          exact kr r _ _ _ _ _ d_W_lowZeros_30 (by rw [hV] at hw; exact hw) ⟨h1, h3, by omega⟩ rfl
        · have hz : z a % 2 ^ (r + 1) = 0 := tz_step h3 (by assumption)
          refine sy_iinc (lv1 := [(1, .int (iI ((r + 1 : Nat) : Int))), (0, .ref (ad 0 a))]) X d_W_lowZeros_23 hl 1 rfl (by omega) (by decide) rfl (fun ls hl => ?_)
          refine sy_goto (tgt := 2) X d_W_lowZeros_26 (by decide) ?_
          exact ih_key (r + 1) H locs ls (by omega) (by omega) hz hw (lv_sub hl [1, 0] rfl)
  exact key 33 0 H locs ls (by omega) (by omega) (by rw [Int.pow_zero]; exact Int.emod_one _) hw (lv_sub hl [1, 0] rfl)
