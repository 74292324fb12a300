/-! lowest terms -/
theorem sgn_R (x : Int) : R31 x.sign := by
  rcases Int.sign_trichotomy x with h | h | h <;> rw [h] <;> constructor <;> decide
theorem odd_pow {A0 s : Nat} (h : (A0 * 2 ^ s) % 2 = 1) : s = 0 := by
  cases s with
  | zero => rfl
  | succ n => rw [Nat.pow_succ, ← Nat.mul_assoc, Nat.mul_mod_left] at h; omega
theorem co2 {n : Nat} (s : Nat) (h : n % 2 = 1) : Nat.Coprime (2 ^ s) n := by
  refine Nat.Coprime.pow_left s ?_
  unfold Nat.Coprime
  rw [Nat.gcd_rec, h, Nat.gcd_one_left]
theorem gcd_odd {A0 B0 s u : Nat} (ha : A0 % 2 = 1) (hb : B0 % 2 = 1) (h : (A0 * 2 ^ s) % 2 = 1 ∨ (B0 * 2 ^ u) % 2 = 1) : Nat.gcd (A0 * 2 ^ s) (B0 * 2 ^ u) = Nat.gcd A0 B0 := by
  rcases h with h | h
  · rw [odd_pow h, Nat.pow_zero, Nat.mul_one, Nat.Coprime.gcd_mul_right_cancel_right B0 (co2 u ha)]
  · rw [odd_pow h, Nat.pow_zero, Nat.mul_one, Nat.Coprime.gcd_mul_right_cancel A0 (co2 s hb)]
theorem nat_of {x : Int} (h : 0 < x) : ∃ n : Nat, x = (n : Int) := ⟨x.toNat, by omega⟩
theorem pw2 (n : Nat) : ((2 ^ n : Nat) : Int) = (2 : Int) ^ n := by rw [Int.natCast_pow]; rfl
theorem gcd_step {x y Z : Int} {t : Nat} (hy : 0 < y) (hyo : y % 2 = 1) (hZ : 0 < Z) (h : x - y = Z * 2 ^ t) : Int.gcd Z y = Int.gcd x y := by
  obtain ⟨y', rfl⟩ := nat_of hy
  obtain ⟨Z', rfl⟩ := nat_of hZ
  have hx : x = ((Z' * 2 ^ t + y' : Nat) : Int) := by rw [Int.natCast_add, Int.natCast_mul, pw2]; omega
  rw [hx, Int.gcd_natCast_natCast, Int.gcd_natCast_natCast, Nat.gcd_add_self_left, Nat.Coprime.gcd_mul_right_cancel Z' (co2 t (by omega))]
theorem half_step {x y Z : Int} {t : Nat} (hx : x % 2 = 1) (hy : 0 < y) (hyo : y % 2 = 1) (hZ : 0 < Z) (hZo : Z % 2 = 1) (h : x - y = Z * 2 ^ t) : 2 * (Z * y) ≤ x * y := by
  have h2 : 2 * Z ≤ x := by
    cases t with
    | zero => rw [Int.pow_zero, Int.mul_one] at h; omega
    | succ n =>
      have h1 : (1 : Int) ≤ 2 ^ n := Int.pow_pos (by decide)
      have h3 : Z * 1 ≤ Z * 2 ^ n := Int.mul_le_mul_of_nonneg_left h1 (by omega)
      have h4 : Z * 2 ^ (n + 1) = 2 * (Z * 2 ^ n) := by rw [Int.pow_succ]; grind
      omega
  have h5 := Int.mul_le_mul_of_nonneg_right h2 (Int.le_of_lt hy)
  have h6 : 2 * (Z * y) = 2 * Z * y := by grind
  omega
theorem prod_lt {x y : Int} (hx : U160 x) (hy : U160 y) (h0 : 0 < x) : x * y < 2 ^ 320 := by
  have h1 : x * y ≤ x * 1461501637330902918203684832716283019655932542976 := Int.mul_le_mul_of_nonneg_left (Int.le_of_lt hy.2) (Int.le_of_lt h0)
  have h2 : x * 1461501637330902918203684832716283019655932542976 < 1461501637330902918203684832716283019655932542976 * 1461501637330902918203684832716283019655932542976 := Int.mul_lt_mul_of_pos_right hx.2 (by decide)
  have h3 : (1461501637330902918203684832716283019655932542976 * 1461501637330902918203684832716283019655932542976 : Int) = 2 ^ 320 := by decide +kernel
  omega
theorem pos_prod {x y : Int} (hx : 0 < x) (hy : 0 < y) : 1 ≤ x * y := Int.mul_pos hx hy
/-- twos that both have are dropped: then one of the two is odd -/
theorem tw_lt {za X : Int} {t : Nat} (hz : U160 za) (hX : 0 < X) (h : za = X * 2 ^ t) : t < 160 := by
  apply Nat.lt_of_not_le
  intro h1
  have h2 : (2 : Int) ^ 160 ≤ 2 ^ t := by
    have e0 : (2 : Int) ^ t = 2 ^ 160 * 2 ^ (t - 160) := by rw [← Int.pow_add, show 160 + (t - 160) = t by omega]
    have e1 : (1 : Int) ≤ 2 ^ (t - 160) := Int.pow_pos (by decide)
    have e2 : (2 : Int) ^ 160 * 1 ≤ 2 ^ 160 * 2 ^ (t - 160) := Int.mul_le_mul_of_nonneg_left e1 (Int.le_of_lt (Int.pow_pos (by decide)))
    rw [Int.mul_one, ← e0] at e2
    exact e2
  have h3 : 1 * (2 : Int) ^ t ≤ X * 2 ^ t := Int.mul_le_mul_of_nonneg_right hX (Int.le_of_lt (Int.pow_pos (by decide)))
  have h4 : (2 : Int) ^ 160 = 1461501637330902918203684832716283019655932542976 := by decide +kernel
  have := hz.2
  omega
theorem dv_pow {X : Int} {r : Nat} (h : X % 2 ^ r = 0) (h0 : 0 < X) : 0 < X / 2 ^ r ∧ X = X / 2 ^ r * 2 ^ r ∧ X / 2 ^ r ≤ X := by
  have e : X = X / 2 ^ r * 2 ^ r := two_div h
  have hp : (0 : Int) < 2 ^ r := Int.pow_pos (by decide)
  have h1 : 0 < X / 2 ^ r := by
    apply Int.lt_of_not_ge
    intro h2
    have h3 : X / 2 ^ r * 2 ^ r ≤ 0 * 2 ^ r := Int.mul_le_mul_of_nonneg_right h2 (Int.le_of_lt hp)
    omega
  exact ⟨h1, e, Int.ediv_le_self _ (Int.le_of_lt h0)⟩
theorem mod_pow {X : Int} {r m : Nat} (h : X % 2 ^ r = 0) (hm : m ≤ r) : X % 2 ^ m = 0 := by
  have e : X = X / 2 ^ r * 2 ^ r := two_div h
  have h2 : (2 : Int) ^ r = 2 ^ (r - m) * 2 ^ m := by rw [← Int.pow_add, Nat.sub_add_cancel hm]
  rw [e, h2, ← Int.mul_assoc, Int.mul_emod_left]
theorem low_un {a X Y k g b : Int} (ha : (a.natAbs : Int) = X * k) (hb : b = Y * k) (hk : 0 < k) (hX : 0 < X) (hY : 0 < Y) (hg : Int.gcd X Y = 1) (_ : g = g) : ((lwN a b).natAbs : Int) = X ∧ lwD a b = Y := by
  obtain ⟨k', rfl⟩ := nat_of hk
  obtain ⟨X', rfl⟩ := nat_of hX
  obtain ⟨Y', rfl⟩ := nat_of hY
  have h1 : a.natAbs = X' * k' := by rw [← Int.natCast_mul] at ha; omega
  have h2 : b.natAbs = Y' * k' := by rw [hb, ← Int.natCast_mul, Int.natAbs_natCast]
  have hk' : 0 < k' := by omega
  have hG : Nat.gcd b.natAbs a.natAbs = k' := by
    rw [h1, h2, Nat.gcd_mul_right]
    rw [Int.gcd_natCast_natCast] at hg
    rw [Nat.gcd_comm, hg, Nat.one_mul]
  unfold lwN lwD
  rw [hG]
  refine ⟨?_, ?_⟩
  · have hd : (k' : Int) ∣ a := by
      rw [← Int.dvd_natAbs, h1]; exact Int.natCast_dvd_natCast.mpr (Nat.dvd_mul_left _ _)
    rw [Int.natAbs_ediv_of_dvd hd, Int.natAbs_natCast, h1, Nat.mul_div_cancel _ hk']
  · rw [hb, Int.mul_ediv_cancel _ (by omega)]
theorem sy_mmin {p : Program} {l : Launch} {e : Env} {s : State} {m : MethodId} {args : Array Value} {below : List Frame} {meth : Method} {c : Code} {H : Heap} {locs : List Loc} {Q : State → Prop} {D : va_G} {tys : List (ClassId × FieldType)} {cc : ByteArray} {nL : Nat} {pc : Nat} {ls : Array Slot} {n a b : Nat} (X : CX D tys R_E cc nL p m c s args) (hls : ls.size = nL) (hn : 1 ≤ n) (ha : a ≤ 32) (hb : b ≤ 32) (hd : decode cc pc = .ok (.invokestatic 224, 3))
    (kk : W p l e (rm n) s m args below meth c H locs 0 0 Q (F0 m (pc + 3) ls [.int (iI ((min a b : Nat) : Int))])) : W p l e (rm n) s m args below meth c H locs 0 0 Q (F0 m pc ls [.int (iI ((b : Nat) : Int)), .int (iI ((a : Nat) : Int))]) := by
  refine va_mmin (rest := []) X.1.1 X.1.2.1 (by rw [hls]; exact X.1.2.2.1) X.1.2.2.2.1 (X.1.2.2.2.2 _ (tt_of k429 rfl)) (X.1.2.2.2.2 _ (tt_of k430 rfl)) (X.1.2.2.2.2 _ (tt_of k49 rfl)) (X.1.2.2.2.2 _ (tt_of k431 rfl)) hn (by show 0 + 13 ≤ 32 * n; omega) (Nat.zero_le _) (Nat.zero_le _) hd ?_
  have h1 : R31 (a : Int) := ⟨by omega, by omega⟩
  have h2 : R31 (b : Int) := ⟨by omega, by omega⟩
  have e1 : (if iI (b : Int) < iI (a : Int) then iI (b : Int) else iI (a : Int)) = iI ((min a b : Nat) : Int) := by
    by_cases h : b < a
    · rw [if_pos ((iI_lt h2 h1).mpr (by omega)), Nat.min_eq_right (by omega)]
    · rw [if_neg (fun g => h (by have := (iI_lt h2 h1).mp g; omega)), Nat.min_eq_left (by omega)]
  rw [e1]; exact kk
theorem dv_le {x X : Int} {t : Nat} (hX : 0 < X) (h : x = X * 2 ^ t) : X ≤ x := by
  have h1 : (1 : Int) ≤ 2 ^ t := Int.pow_pos (by decide)
  have h2 : X * 1 ≤ X * 2 ^ t := Int.mul_le_mul_of_nonneg_left h1 (Int.le_of_lt hX)
  omega
theorem sign_eq {x : Int} (h : x.sign = 0) : x = 0 := Int.sign_eq_zero_iff_zero.mp h
theorem sign_ne {x : Int} (h : x.sign ≠ 0) : x ≠ 0 := fun g => h (by rw [g]; rfl)
theorem sign_ge {x : Int} (h : 0 ≤ x.sign) : 0 ≤ x := by
  rcases Int.lt_trichotomy x 0 with g | g | g
  · rw [Int.sign_eq_neg_one_of_neg g] at h; omega
  · omega
  · omega
theorem sign_lt {x : Int} (h : ¬ 0 ≤ x.sign) : x < 0 := by
  rcases Int.lt_trichotomy x 0 with g | g | g
  · exact g
  · rw [g] at h; exact absurd (by decide) h
  · rw [Int.sign_eq_one_of_pos g] at h; omega
set_option maxRecDepth 100000 in
set_option maxHeartbeats 4000000 in
theorem c_E_dropCommonTwos (l : Launch) (D : va_G) (cs : Nat → ClassId) (ad : Nat → Nat → Nat) (E O P : Nat → Nat → Int) (z : Nat → Int) (h1 : U160 (z 117)) (h2 : U160 (z 118)) (h3 : 0 < z 117) (h4 : 0 < z 118) : Ct (S := Nat → Int) l D (tyL cs) y_E_dropCommonTwos b_E_dropCommonTwos 3 none (rm 3) [.ref (ad 5 0)] (wE ad cs E O P z) (fun z1 => KeepZ z z1 ∧ (0 < z1 117 ∧ 0 < z1 118) ∧ (z1 117 % 2 = 1 ∨ z1 118 % 2 = 1) ∧ ∃ t : Nat, z 117 = z1 117 * 2 ^ t ∧ z 118 = z1 118 * 2 ^ t) (fun _ => none) (fun z1 => wE ad cs E O P z1) := by
  refine Ct.introV (by decide) (Nat.le_of_ble_eq_true rfl) (fun _ => rfl) ?_
  intro p e s m below meth c A args Q H locs X hnm hw kr ls hl
  have X : CX D (tyL cs) R_E b_E_dropCommonTwos 3 p m c s args := X
  have hl : lv_has ls 3 [(0, .ref (ad 5 0))] := hl
  refine sy_iconst X d_E_dropCommonTwos_0 ?_
  refine sy_istore_n (lv1 := [(1, .int (iI 0)), (0, .ref (ad 5 0))]) X d_E_dropCommonTwos_1 hl rfl (by decide) rfl (fun ls hl => ?_)
  have key : ∀ (n : Nat) (r t : Nat) (z1 : Nat → Int) (H : Heap) (locs : List Loc) (ls : Array Slot), r ≤ 6 → 6 < r + n → KeepZ z z1 → (0 < z1 117 ∧ 0 < z1 118) → ((z1 117 % 2 = 1 ∨ z1 118 % 2 = 1) ∨ t = 32 * r) → z 117 = z1 117 * 2 ^ t → z 118 = z1 118 * 2 ^ t → (U160 (z1 117) ∧ U160 (z1 118)) → HW D A s.heap (wE ad cs E O P z1) H locs → lv_has ls 3 [(0, .ref (ad 5 0)), (1, .int (iI ((r : Nat) : Int)))] → W p l e (rm 3) s m args below meth c H locs 0 0 Q (F0 m 2 ls []) := by
    intro n
    induction n with
    | zero =>
      intro r t z1 H locs ls f1 f2 f3 f4 f5 f6 f7 f8 hw hl
      exfalso; omega
    | succ n ih_key =>
      intro r t z1 H locs ls f1 f2 f3 f4 f5 f6 f7 f8 hw hl
      refine sy_iload_n X d_E_dropCommonTwos_2 hl 1 rfl ?_
      refine sy_iconst X d_E_dropCommonTwos_3 ?_
      refine sy_icmp_gt (tgt := 47) X d_E_dropCommonTwos_4 (by decide) ⟨by omega, by omega⟩ ⟨by omega, by omega⟩ (fun c1 => ?_) (fun c1 => ?_)
      · have hr6 : r = 6 := by omega
        have ht := tw_lt h1 f4.1 f6
        exact kr z1 _ _ _ _ d_E_dropCommonTwos_47 hw ⟨f3, f4, by rcases f5 with h | h; exact h; omega, t, f6, f7⟩
      · refine sy_aload_n X d_E_dropCommonTwos_7 hl 0 rfl ?_
        refine e_get X hw 10 (by decide) rfl (tt_of k208 rfl) d_E_dropCommonTwos_8 ?_
        have hw := hw.ofE
        refine call_Vi (Xs := XE ad cs E ++ XC ad O P) (b := ad 0 117) (As := []) (rest := []) X lk_E_221 (c_W_lowZeros l D cs ad z1 117 (by decide)) ⟨by decide, by decide⟩ (rcv_Z (by omega)) hw rfl hl.1 (Nat.le_of_ble_eq_true rfl) d_E_dropCommonTwos_11 rfl rfl ⟨Nat.zero_le _, Nat.zero_le _⟩ (fun a H locs ha hw => ?_)
        have hw := hw.toE
        refine sy_aload_n X d_E_dropCommonTwos_14 hl 0 rfl ?_
        refine e_get X hw 11 (by decide) rfl (tt_of k209 rfl) d_E_dropCommonTwos_15 ?_
        have hw := hw.ofE
        refine call_Vi (Xs := XE ad cs E ++ XC ad O P) (b := ad 0 118) (As := []) (rest := [.int (iI ((a : Nat) : Int))]) X lk_E_221 (c_W_lowZeros l D cs ad z1 118 (by decide)) ⟨by decide, by decide⟩ (rcv_Z (by omega)) hw rfl hl.1 (Nat.le_of_ble_eq_true rfl) d_E_dropCommonTwos_18 rfl rfl ⟨Nat.zero_le _, Nat.zero_le _⟩ (fun b H locs hb hw => ?_)
        have hw := hw.toE
        refine sy_mmin X hl.1 (by decide) ha.1 hb.1 d_E_dropCommonTwos_21 ?_
        obtain ⟨mn, hmn⟩ : ∃ g, g = min a b := ⟨_, rfl⟩
        have hm1 : mn ≤ a := by omega
        have hm2 : mn ≤ b := by omega
        obtain ⟨p1, p2, p3⟩ := dv_pow (mod_pow ha.2.1 hm1) f4.1
        obtain ⟨q1, q2, q3⟩ := dv_pow (mod_pow hb.2.1 hm2) f4.2
        rw [← hmn]
        refine sy_istore_n (lv1 := [(2, .int (iI ((mn : Nat) : Int))), (0, .ref (ad 5 0)), (1, .int (iI ((r : Nat) : Int)))]) X d_E_dropCommonTwos_24 hl rfl (by decide) rfl (fun ls hl => ?_)
        refine sy_aload_n X d_E_dropCommonTwos_25 hl 1 rfl ?_
        refine e_get X hw 10 (by decide) rfl (tt_of k208 rfl) d_E_dropCommonTwos_26 ?_
        refine sy_iload_n X d_E_dropCommonTwos_29 hl 0 rfl ?_
        have hw := hw.ofE
        refine call_Vv (Xs := XE ad cs E ++ XC ad O P) (b := ad 0 117) (As := [.int (iI ((mn : Nat) : Int))]) (rest := []) X lk_E_230 (c_W_shiftRight l D cs ad z1 117 mn (by decide) (by omega) f8.1) ⟨by decide, by decide⟩ (rcv_Z (by omega)) hw rfl hl.1 (Nat.le_of_ble_eq_true rfl) d_E_dropCommonTwos_30 rfl rfl ⟨Nat.zero_le _, Nat.zero_le _⟩ (fun _ H locs _ hw => ?_)
        have hw := hw.toE
        refine sy_aload_n X d_E_dropCommonTwos_33 hl 1 rfl ?_
        refine e_get X hw 11 (by decide) rfl (tt_of k209 rfl) d_E_dropCommonTwos_34 ?_
        refine sy_iload_n X d_E_dropCommonTwos_37 hl 0 rfl ?_
        have hw := hw.ofE
        refine call_Vv (Xs := XE ad cs E ++ XC ad O P) (b := ad 0 118) (As := [.int (iI ((mn : Nat) : Int))]) (rest := []) X lk_E_230 (c_W_shiftRight l D cs ad (up1 z1 117 (z1 117 / 2 ^ mn)) 118 mn (by decide) (by omega) (by rw [up1_n _ (by decide)]; exact f8.2)) ⟨by decide, by decide⟩ (rcv_Z (by omega)) hw rfl hl.1 (Nat.le_of_ble_eq_true rfl) d_E_dropCommonTwos_38 rfl rfl ⟨Nat.zero_le _, Nat.zero_le _⟩ (fun _ H locs _ hw => ?_)
        have hw := hw.toE
        obtain ⟨z2, ez2⟩ : ∃ g, g = up1 (up1 z1 117 (z1 117 / 2 ^ mn)) 118 (up1 z1 117 (z1 117 / 2 ^ mn) 118 / 2 ^ mn) := ⟨_, rfl⟩
        rw [← ez2] at hw
        have g1 : z2 117 = z1 117 / 2 ^ mn := by rw [ez2, up1_n _ (by decide), up1_s]
        have g2 : z2 118 = z1 118 / 2 ^ mn := by rw [ez2, up1_s, up1_n _ (by decide)]
        have hn1 : KeepZ z z2 := fun k hk => by rw [ez2, up1_n _ (by omega), up1_n _ (by omega)]; exact f3 k hk
        have hn2 : 0 < z2 117 ∧ 0 < z2 118 := by rw [g1, g2]; exact ⟨p1, q1⟩
        have hn3 : (z2 117 % 2 = 1 ∨ z2 118 % 2 = 1) ∨ t + min a b = 32 * (r + 1) := by
          rcases f5 with h5 | h5
          · refine Or.inl ?_
            have h0 : mn = 0 := by
              rcases h5 with h5 | h5
              · apply Nat.eq_zero_of_not_pos; intro h0
                have h6 := mod_pow (m := 1) ha.2.1 (by omega); rw [Int.pow_succ, Int.pow_zero] at h6; omega
              · apply Nat.eq_zero_of_not_pos; intro h0
                have h6 := mod_pow (m := 1) hb.2.1 (by omega); rw [Int.pow_succ, Int.pow_zero] at h6; omega
            rw [g1, g2, h0, Int.pow_zero, Int.ediv_one, Int.ediv_one]; exact h5
          · by_cases h6 : a = 32 ∧ b = 32
            · exact Or.inr (by omega)
            · refine Or.inl ?_
              rw [g1, g2]
              rcases Nat.le_total a b with h7 | h7
              · rw [hmn, Nat.min_eq_left h7]
                rcases ha.2.2 with h8 | h8
                · omega
                · exact Or.inl h8
              · rw [hmn, Nat.min_eq_right h7]
                rcases hb.2.2 with h8 | h8
                · omega
                · exact Or.inr h8
        have hn4 : z 117 = z2 117 * 2 ^ (t + min a b) := by rw [f6, g1, ← hmn, Nat.add_comm, Int.pow_add, ← Int.mul_assoc, ← p2]
        have hn5 : z 118 = z2 118 * 2 ^ (t + min a b) := by rw [f7, g2, ← hmn, Nat.add_comm, Int.pow_add, ← Int.mul_assoc, ← q2]
        have hn6 : U160 (z2 117) ∧ U160 (z2 118) := by rw [g1, g2]; exact ⟨⟨by omega, Int.lt_of_le_of_lt p3 f8.1.2⟩, ⟨by omega, Int.lt_of_le_of_lt q3 f8.2.2⟩⟩
        refine sy_iinc (lv1 := [(1, .int (iI ((r + 1 : Nat) : Int))), (2, .int (iI ((mn : Nat) : Int))), (0, .ref (ad 5 0))]) X d_E_dropCommonTwos_41 hl 2 rfl (by omega) (by decide) rfl (fun ls hl => ?_)
        refine sy_goto (tgt := 2) X d_E_dropCommonTwos_44 (by decide) ?_
        exact ih_key (r + 1) (t + min a b) _ H locs ls (by omega) (by omega) hn1 hn2 hn3 hn4 hn5 hn6 hw (lv_sub hl [2, 0] rfl)
  exact key 7 0 0 z H locs ls (by omega) (by omega) (fun _ _ => rfl) ⟨h3, h4⟩ (Or.inr rfl) (by rw [Int.pow_zero, Int.mul_one]) (by rw [Int.pow_zero, Int.mul_one]) ⟨h1, h2⟩ hw (lv_sub hl [1, 0] rfl)
set_option maxRecDepth 100000 in
set_option maxHeartbeats 4000000 in
theorem c_E_oddCommonDivisor (l : Launch) (D : va_G) (cs : Nat → ClassId) (ad : Nat → Nat → Nat) (E O P : Nat → Nat → Int) (z : Nat → Int) (h1 : U160 (z 117)) (h2 : U160 (z 118)) (h3 : 0 < z 117) (h4 : 0 < z 118) : Ct (S := Nat × (Nat → Int)) l D (tyL cs) y_E_oddCommonDivisor b_E_oddCommonDivisor 6 (some (.object "ExactEstimates$Whole")) (rm 3) [.ref (ad 5 0)] (wE ad cs E O P z) (fun u => (u.1 = 119 ∨ u.1 = 120) ∧ (∀ k, k < 119 → u.2 k = z k) ∧ ∃ (A0 B0 : Int) (t1 t2 : Nat), (0 < A0 ∧ A0 % 2 = 1) ∧ (0 < B0 ∧ B0 % 2 = 1) ∧ z 117 = A0 * 2 ^ t1 ∧ z 118 = B0 * 2 ^ t2 ∧ u.2 u.1 = ((Int.gcd A0 B0 : Nat) : Int)) (fun u => some (.ref (ad 0 u.1))) (fun u => wE ad cs E O P u.2) := by
  refine Ct.introA (by decide) (Nat.le_of_ble_eq_true rfl) ?_
  intro p e s m below meth c A args Q H locs X hnm hw kr ls hl
  have X : CX D (tyL cs) R_E b_E_oddCommonDivisor 6 p m c s args := X
  have hl : lv_has ls 6 [(0, .ref (ad 5 0))] := hl
  refine sy_aload_n X d_E_oddCommonDivisor_0 hl 0 rfl ?_
  refine e_get X hw 12 (by decide) rfl (tt_of k210 rfl) d_E_oddCommonDivisor_1 ?_
  refine sy_astore_n (lv1 := [(1, .ref (ad 0 119)), (0, .ref (ad 5 0))]) X d_E_oddCommonDivisor_4 hl rfl (by decide) rfl (fun ls hl => ?_)
  refine sy_aload_n X d_E_oddCommonDivisor_5 hl 1 rfl ?_
  refine e_get X hw 13 (by decide) rfl (tt_of k211 rfl) d_E_oddCommonDivisor_6 ?_
  refine sy_astore_n (lv1 := [(2, .ref (ad 0 120)), (1, .ref (ad 0 119)), (0, .ref (ad 5 0))]) X d_E_oddCommonDivisor_9 hl rfl (by decide) rfl (fun ls hl => ?_)
  refine sy_aload_n X d_E_oddCommonDivisor_10 hl 1 rfl ?_
  refine sy_aload_n X d_E_oddCommonDivisor_11 hl 2 rfl ?_
  refine e_get X hw 10 (by decide) rfl (tt_of k208 rfl) d_E_oddCommonDivisor_12 ?_
  have hw := hw.ofE
  refine call_Vv (Xs := XE ad cs E ++ XC ad O P) (b := ad 0 119) (As := [.ref (ad 0 117)]) (rest := []) X lk_E_167 (c_W_copy l D cs ad z 119 117 (by decide) (by decide)) ⟨by decide, by decide⟩ (rcv_Z (by omega)) hw rfl hl.1 (Nat.le_of_ble_eq_true rfl) d_E_oddCommonDivisor_15 rfl rfl ⟨Nat.zero_le _, Nat.zero_le _⟩ (fun _ H locs _ hw => ?_)
  have hw := hw.toE
  refine sy_aload_n X d_E_oddCommonDivisor_18 hl 1 rfl ?_
  have hw := hw.ofE
  refine call_Vv (Xs := XE ad cs E ++ XC ad O P) (b := ad 0 119) (As := []) (rest := []) X lk_E_233 (c_W_dropTwos l D cs ad (up1 z 119 (z 117)) 119 (by decide) (by rw [up1_s]; exact h1) (by rw [up1_s]; exact h3)) ⟨by decide, by decide⟩ (rcv_Z (by omega)) hw rfl hl.1 (Nat.le_of_ble_eq_true rfl) d_E_oddCommonDivisor_19 rfl rfl ⟨Nat.zero_le _, Nat.zero_le _⟩ (fun A0 H locs hA hw => ?_)
  have hw := hw.toE
  obtain ⟨z2, ez2⟩ : ∃ g, g = up1 (up1 z 119 (z 117)) 119 A0 := ⟨_, rfl⟩
  rw [← ez2] at hw
  rw [up1_s] at hA
  obtain ⟨hA0, hA1, t1, hA2⟩ := hA
  refine sy_aload_n X d_E_oddCommonDivisor_22 hl 0 rfl ?_
  refine sy_aload_n X d_E_oddCommonDivisor_23 hl 2 rfl ?_
  refine e_get X hw 11 (by decide) rfl (tt_of k209 rfl) d_E_oddCommonDivisor_24 ?_
  have hw := hw.ofE
  refine call_Vv (Xs := XE ad cs E ++ XC ad O P) (b := ad 0 120) (As := [.ref (ad 0 118)]) (rest := []) X lk_E_167 (c_W_copy l D cs ad z2 120 118 (by decide) (by decide)) ⟨by decide, by decide⟩ (rcv_Z (by omega)) hw rfl hl.1 (Nat.le_of_ble_eq_true rfl) d_E_oddCommonDivisor_27 rfl rfl ⟨Nat.zero_le _, Nat.zero_le _⟩ (fun _ H locs _ hw => ?_)
  have hw := hw.toE
  obtain ⟨z3, ez3⟩ : ∃ g, g = up1 z2 120 (z2 118) := ⟨_, rfl⟩
  rw [← ez3] at hw
  have e31 : z3 120 = z 118 := by rw [ez3, up1_s, ez2, up1_n _ (by decide), up1_n _ (by decide)]
  refine sy_aload_n X d_E_oddCommonDivisor_30 hl 0 rfl ?_
  have hw := hw.ofE
  refine call_Vv (Xs := XE ad cs E ++ XC ad O P) (b := ad 0 120) (As := []) (rest := []) X lk_E_233 (c_W_dropTwos l D cs ad z3 120 (by decide) (by rw [e31]; exact h2) (by rw [e31]; exact h4)) ⟨by decide, by decide⟩ (rcv_Z (by omega)) hw rfl hl.1 (Nat.le_of_ble_eq_true rfl) d_E_oddCommonDivisor_31 rfl rfl ⟨Nat.zero_le _, Nat.zero_le _⟩ (fun B0 H locs hB hw => ?_)
  have hw := hw.toE
  obtain ⟨z4, ez4⟩ : ∃ g, g = up1 z3 120 B0 := ⟨_, rfl⟩
  rw [← ez4] at hw
  rw [e31] at hB
  obtain ⟨hB0, hB1, t2, hB2⟩ := hB
  have e41 : z4 119 = A0 := by rw [ez4, up1_n _ (by decide), ez3, up1_n _ (by decide), ez2, up1_s]
  have e42 : z4 120 = B0 := by rw [ez4, up1_s]
  have uA : U160 A0 := ⟨by omega, by have q1 := dv_le hA0 hA2; have := h1.2; omega⟩
  have uB : U160 B0 := ⟨by omega, by have q1 := dv_le hB0 hB2; have := h2.2; omega⟩
  refine sy_iconst X d_E_oddCommonDivisor_34 ?_
  refine sy_istore_n (lv1 := [(3, .int (iI 0)), (2, .ref (ad 0 120)), (1, .ref (ad 0 119)), (0, .ref (ad 5 0))]) X d_E_oddCommonDivisor_35 hl rfl (by decide) rfl (fun ls hl => ?_)
  have key : ∀ (n : Nat) (r a b : Nat) (z1 : Nat → Int) (H : Heap) (locs : List Loc) (ls : Array Slot), r ≤ 320 → 320 < r + n → ((a = 119 ∧ b = 120) ∨ (a = 120 ∧ b = 119)) → (∀ k, k < 119 → z1 k = z k) → 0 < z1 a → z1 a % 2 = 1 → 0 < z1 b → z1 b % 2 = 1 → Int.gcd (z1 a) (z1 b) = Int.gcd A0 B0 → z1 a * z1 b < 2 ^ (320 - r) → U160 (z1 a) → U160 (z1 b) → HW D A s.heap (wE ad cs E O P z1) H locs → lv_has ls 6 [(0, .ref (ad 5 0)), (1, .ref (ad 0 a)), (2, .ref (ad 0 b)), (3, .int (iI ((r : Nat) : Int)))] → W p l e (rm 3) s m args below meth c H locs 0 0 Q (F0 m 36 ls []) := by
    intro n
    induction n with
    | zero =>
      intro r a b z1 H locs ls f1 f2 hab hk0 fap fao fbp fbo hg0 hm0 ua ub hw hl
      exfalso; omega
    | succ n ih_key =>
      intro r a b z1 H locs ls f1 f2 hab hk0 fap fao fbp fbo hg0 hm0 ua ub hw hl
      refine sy_iload_n X d_E_oddCommonDivisor_36 hl 3 rfl ?_
      refine sy_sipush X d_E_oddCommonDivisor_37 (by decide) ?_
      refine sy_icmp_ge (tgt := 87) X d_E_oddCommonDivisor_40 (by decide) ⟨by omega, by omega⟩ ⟨by omega, by omega⟩ (fun c1 => ?_) (fun c1 => ?_)
      · exact absurd (pos_prod fap fbp) (by rw [show r = 320 by omega, Nat.sub_self, Int.pow_zero] at hm0; omega)
      · refine sy_aload_n X d_E_oddCommonDivisor_43 hl 1 rfl ?_
        refine sy_aload_n X d_E_oddCommonDivisor_44 hl 2 rfl ?_
        have hw := hw.ofE
        refine call_Vi (Xs := XE ad cs E ++ XC ad O P) (b := ad 0 a) (As := [.ref (ad 0 b)]) (rest := []) X lk_E_236 (c_W_order l D cs ad z1 a b (by omega) (by omega) ua ub) ⟨by decide, by decide⟩ (rcv_Z (by omega)) hw rfl hl.1 (Nat.le_of_ble_eq_true rfl) d_E_oddCommonDivisor_45 rfl rfl ⟨Nat.zero_le _, Nat.zero_le _⟩ (fun _ H locs _ hw => ?_)
        have hw := hw.toE
        refine sy_istore (lv1 := [(4, .int (iI ((z1 a - z1 b).sign))), (0, .ref (ad 5 0)), (1, .ref (ad 0 a)), (2, .ref (ad 0 b)), (3, .int (iI ((r : Nat) : Int)))]) X d_E_oddCommonDivisor_48 hl (by decide) rfl (fun ls hl => ?_)
        refine sy_iload X d_E_oddCommonDivisor_50 hl 0 rfl ?_
        refine sy_if_ne (tgt := 58) X d_E_oddCommonDivisor_52 (by decide) (sgn_R _) (fun co => ?_) (fun co => ?_)
        · refine sy_iload X d_E_oddCommonDivisor_58 hl 0 rfl ?_
          refine sy_if_ge (tgt := 71) X d_E_oddCommonDivisor_60 (by decide) (sgn_R _) (fun cp => ?_) (fun cp => ?_)
          · have hlt : z1 b < z1 a := by have := sign_ge cp; have := sign_ne co; omega
            refine sy_aload_n X d_E_oddCommonDivisor_71 hl 2 rfl ?_
            refine sy_aload_n X d_E_oddCommonDivisor_72 hl 3 rfl ?_
            refine sy_iconst X d_E_oddCommonDivisor_73 ?_
            have hw := hw.ofE
            refine call_Vv (Xs := XE ad cs E ++ XC ad O P) (b := ad 0 a) (As := [.ref (ad 0 b), .int (iI (-1))]) (rest := []) X lk_E_147 (c_W_addTimes l D cs ad z1 a b (-1) (by omega) (by omega) ⟨by decide, by decide⟩) ⟨by decide, by decide⟩ (rcv_Z (by omega)) hw rfl hl.1 (Nat.le_of_ble_eq_true rfl) d_E_oddCommonDivisor_74 rfl rfl ⟨Nat.zero_le _, Nat.zero_le _⟩ (fun _ H locs _ hw => ?_)
            have hw := hw.toE
            obtain ⟨z2, ez2⟩ : ∃ g, g = up1 z1 a (z1 a + z1 b * (-1)) := ⟨_, rfl⟩
            rw [← ez2] at hw
            have e2a : z2 a = z1 a - z1 b := by rw [ez2, up1_s]; omega
            refine sy_aload_n X d_E_oddCommonDivisor_77 hl 2 rfl ?_
            have hw := hw.ofE
            refine call_Vv (Xs := XE ad cs E ++ XC ad O P) (b := ad 0 a) (As := []) (rest := []) X lk_E_233 (c_W_dropTwos l D cs ad z2 a (by omega) (by rw [e2a]; exact ⟨by omega, by have q1 := ua.2; omega⟩) (by rw [e2a]; omega)) ⟨by decide, by decide⟩ (rcv_Z (by omega)) hw rfl hl.1 (Nat.le_of_ble_eq_true rfl) d_E_oddCommonDivisor_78 rfl rfl ⟨Nat.zero_le _, Nat.zero_le _⟩ (fun Z H locs hZ hw => ?_)
            have hw := hw.toE
            obtain ⟨z5, ez5⟩ : ∃ g, g = up1 z2 a Z := ⟨_, rfl⟩
            rw [← ez5] at hw
            rw [e2a] at hZ
            obtain ⟨hZ0, hZ1, t3, hZ2⟩ := hZ
            have e5a : z5 a = Z := by rw [ez5, up1_s]
            have e5b : z5 b = z1 b := by rw [ez5, up1_n _ (by omega), ez2, up1_n _ (by omega)]
            have hZ3 : z1 a - z1 b = Z * 2 ^ t3 := by omega
            have hgs := gcd_step fbp fbo hZ0 hZ3
            have hhs := half_step fao fbp fbo hZ0 hZ1 hZ3
            have hk5 : ∀ k, k < 119 → z5 k = z k := fun k hk => by rw [ez5, up1_n _ (by omega), ez2, up1_n _ (by omega)]; exact hk0 k hk
            have hm5 : z5 a * z5 b < 2 ^ (320 - (r + 1)) := by
              rw [e5a, e5b]
              have q1 : (2 : Int) ^ (320 - r) = 2 ^ (320 - (r + 1)) * 2 := by rw [← Int.pow_succ]; congr 1; omega
              have q2 := hm0
              generalize (2 : Int) ^ (320 - (r + 1)) = w5 at *
              omega
            have hu5 : U160 (z5 a) := by rw [e5a]; have q1 := dv_le hZ0 hZ3; have q2 := ua.2; exact ⟨by omega, by omega⟩
            have hv5 : U160 (z5 b) := by rw [e5b]; exact ub
            have hg5 : Int.gcd (z5 a) (z5 b) = Int.gcd A0 B0 := by rw [e5a, e5b, hgs]; exact hg0
            refine sy_iinc (lv1 := [(3, .int (iI ((r + 1 : Nat) : Int))), (4, .int (iI ((z1 a - z1 b).sign))), (0, .ref (ad 5 0)), (1, .ref (ad 0 a)), (2, .ref (ad 0 b))]) X d_E_oddCommonDivisor_81 hl 4 rfl (by omega) (by decide) rfl (fun ls hl => ?_)
            refine sy_goto (tgt := 36) X d_E_oddCommonDivisor_84 (by decide) ?_
            exact ih_key (r + 1) a b z5 H locs ls (by omega) (by omega) (by omega) hk5 (by rw [e5a]; exact hZ0) (by rw [e5a]; exact hZ1) (by rw [e5b]; exact fbp) (by rw [e5b]; exact fbo) hg5 hm5 hu5 hv5 hw (lv_sub hl [2, 3, 4, 0] rfl)
          · refine sy_aload_n X d_E_oddCommonDivisor_63 hl 2 rfl ?_
            refine sy_astore (lv1 := [(5, .ref (ad 0 a)), (4, .int (iI ((z1 a - z1 b).sign))), (0, .ref (ad 5 0)), (1, .ref (ad 0 a)), (2, .ref (ad 0 b)), (3, .int (iI ((r : Nat) : Int)))]) X d_E_oddCommonDivisor_64 hl (by decide) rfl (fun ls hl => ?_)
            refine sy_aload_n X d_E_oddCommonDivisor_66 hl 4 rfl ?_
            refine sy_astore_n (lv1 := [(1, .ref (ad 0 b)), (5, .ref (ad 0 a)), (4, .int (iI ((z1 a - z1 b).sign))), (0, .ref (ad 5 0)), (2, .ref (ad 0 b)), (3, .int (iI ((r : Nat) : Int)))]) X d_E_oddCommonDivisor_67 hl rfl (by decide) rfl (fun ls hl => ?_)
            refine sy_aload X d_E_oddCommonDivisor_68 hl 1 rfl ?_
            refine sy_astore_n (lv1 := [(2, .ref (ad 0 a)), (1, .ref (ad 0 b)), (5, .ref (ad 0 a)), (4, .int (iI ((z1 a - z1 b).sign))), (0, .ref (ad 5 0)), (3, .int (iI ((r : Nat) : Int)))]) X d_E_oddCommonDivisor_70 hl rfl (by decide) rfl (fun ls hl => ?_)
            have hlt : z1 a < z1 b := by have := sign_lt cp; omega
            refine sy_aload_n X d_E_oddCommonDivisor_71 hl 1 rfl ?_
            refine sy_aload_n X d_E_oddCommonDivisor_72 hl 0 rfl ?_
            refine sy_iconst X d_E_oddCommonDivisor_73 ?_
            have hw := hw.ofE
            refine call_Vv (Xs := XE ad cs E ++ XC ad O P) (b := ad 0 b) (As := [.ref (ad 0 a), .int (iI (-1))]) (rest := []) X lk_E_147 (c_W_addTimes l D cs ad z1 b a (-1) (by omega) (by omega) ⟨by decide, by decide⟩) ⟨by decide, by decide⟩ (rcv_Z (by omega)) hw rfl hl.1 (Nat.le_of_ble_eq_true rfl) d_E_oddCommonDivisor_74 rfl rfl ⟨Nat.zero_le _, Nat.zero_le _⟩ (fun _ H locs _ hw => ?_)
            have hw := hw.toE
            obtain ⟨z2, ez2⟩ : ∃ g, g = up1 z1 b (z1 b + z1 a * (-1)) := ⟨_, rfl⟩
            rw [← ez2] at hw
            have e2a : z2 b = z1 b - z1 a := by rw [ez2, up1_s]; omega
            refine sy_aload_n X d_E_oddCommonDivisor_77 hl 1 rfl ?_
            have hw := hw.ofE
            refine call_Vv (Xs := XE ad cs E ++ XC ad O P) (b := ad 0 b) (As := []) (rest := []) X lk_E_233 (c_W_dropTwos l D cs ad z2 b (by omega) (by rw [e2a]; exact ⟨by omega, by have q1 := ub.2; omega⟩) (by rw [e2a]; omega)) ⟨by decide, by decide⟩ (rcv_Z (by omega)) hw rfl hl.1 (Nat.le_of_ble_eq_true rfl) d_E_oddCommonDivisor_78 rfl rfl ⟨Nat.zero_le _, Nat.zero_le _⟩ (fun Z H locs hZ hw => ?_)
            have hw := hw.toE
            obtain ⟨z5, ez5⟩ : ∃ g, g = up1 z2 b Z := ⟨_, rfl⟩
            rw [← ez5] at hw
            rw [e2a] at hZ
            obtain ⟨hZ0, hZ1, t3, hZ2⟩ := hZ
            have e5a : z5 b = Z := by rw [ez5, up1_s]
            have e5b : z5 a = z1 a := by rw [ez5, up1_n _ (by omega), ez2, up1_n _ (by omega)]
            have hZ3 : z1 b - z1 a = Z * 2 ^ t3 := by omega
            have hgs := gcd_step fap fao hZ0 hZ3
            have hhs := half_step fbo fap fao hZ0 hZ1 hZ3
            have hk5 : ∀ k, k < 119 → z5 k = z k := fun k hk => by rw [ez5, up1_n _ (by omega), ez2, up1_n _ (by omega)]; exact hk0 k hk
            have hm5 : z5 b * z5 a < 2 ^ (320 - (r + 1)) := by
              rw [e5a, e5b]
              have q1 : (2 : Int) ^ (320 - r) = 2 ^ (320 - (r + 1)) * 2 := by rw [← Int.pow_succ]; congr 1; omega
              have q2 := hm0
              rw [Int.mul_comm (z1 a)] at q2; generalize (2 : Int) ^ (320 - (r + 1)) = w5 at *
              omega
            have hu5 : U160 (z5 b) := by rw [e5a]; have q1 := dv_le hZ0 hZ3; have q2 := ub.2; exact ⟨by omega, by omega⟩
            have hv5 : U160 (z5 a) := by rw [e5b]; exact ua
            have hg5 : Int.gcd (z5 b) (z5 a) = Int.gcd A0 B0 := by rw [e5a, e5b, hgs]; exact (Int.gcd_comm _ _).trans hg0
            refine sy_iinc (lv1 := [(3, .int (iI ((r + 1 : Nat) : Int))), (2, .ref (ad 0 a)), (1, .ref (ad 0 b)), (5, .ref (ad 0 a)), (4, .int (iI ((z1 a - z1 b).sign))), (0, .ref (ad 5 0))]) X d_E_oddCommonDivisor_81 hl 5 rfl (by omega) (by decide) rfl (fun ls hl => ?_)
            refine sy_goto (tgt := 36) X d_E_oddCommonDivisor_84 (by decide) ?_
            exact ih_key (r + 1) b a z5 H locs ls (by omega) (by omega) (by omega) hk5 (by rw [e5a]; exact hZ0) (by rw [e5a]; exact hZ1) (by rw [e5b]; exact fap) (by rw [e5b]; exact fao) hg5 hm5 hu5 hv5 hw (lv_sub hl [5, 2, 1, 0] rfl)
        · refine sy_goto (tgt := 87) X d_E_oddCommonDivisor_55 (by decide) ?_
          have heq : z1 a = z1 b := by have := sign_eq co; omega
          refine sy_aload_n X d_E_oddCommonDivisor_87 hl 3 rfl ?_
          exact kr (b, z1) _ _ _ _ _ d_E_oddCommonDivisor_88 hw ⟨by show b = 119 ∨ b = 120; omega, hk0, A0, B0, t1, t2, ⟨hA0, hA1⟩, ⟨hB0, hB1⟩, hA2, hB2, by
            show z1 b = _
            rw [← hg0, heq, Int.gcd_self]; omega⟩ rfl
  exact key 321 0 119 120 z4 H locs ls (by omega) (by omega) (Or.inl ⟨rfl, rfl⟩) (fun k hk => by rw [ez4, up1_n _ (by omega), ez3, up1_n _ (by omega), ez2, up1_n _ (by omega), up1_n _ (by omega)]) (by omega) (by omega) (by omega) (by omega) (by rw [e41, e42]) (by rw [e41, e42]; exact prod_lt uA uB hA0) (by rw [e41]; exact uA) (by rw [e42]; exact uB) hw (lv_sub hl [3, 2, 1, 0] rfl)
