abbrev rmc (n c sl : Nat) : Room := { frames := n, cells := c, slots := sl, locals := 32 * n }
set_option maxRecDepth 100000 in
set_option maxHeartbeats 4000000 in
theorem z_W_init (l : Launch) (D : va_G) (cs : Nat → ClassId) (h : Nat) : CtZ (S := Nat) l D (tyL cs) y_W_init b_W_init 1 (rmc 1 1 5) [.ref h] [(h, .inr (3, [.null]))] (fun _ => True) (fun q => [(h, .inr (3, [.ref q])), (q, aj (cs 1) 5 (fun _ => 0))]) := by
  refine CtZ.intro (by decide) (Nat.le_of_ble_eq_true rfl) ?_
  intro p e s m below meth c A args Q H locs hz X hnm hw kr ls hl
  have X : CX D (tyL cs) R_W b_W_init 1 p m c s args := X
  have hl : lv_has ls 1 [(0, .ref h)] := hl
  refine sy_aload_n X d_W_init_0 hl 0 rfl ?_
  refine hw_obj X (tt_of k109 rfl) hl.1 (by decide) (by decide) d_W_init_1 ?_
  refine sy_aload_n X d_W_init_4 hl 0 rfl ?_
  refine sy_iconst X d_W_init_5 ?_
  refine hw_newj X hw 5 rfl (by decide) (by decide) (by decide) d_W_init_6 (fun q H hw => ?_)
  refine hw_putF (ci := 3) (q0 := 0) (k := 0) (ty := .array .long) X hw ig_W t_W t_W_ok n_W rfl rfl (by decide) (tt_of k110 rfl) rfl hnm rfl (by decide +kernel) rfl rfl (by decide) d_W_init_8 (fun H locs hw => ?_)
  exact kr q H locs _ _ d_W_init_11 hw trivial
set_option maxRecDepth 100000 in
set_option maxHeartbeats 4000000 in
theorem z_O_init (l : Launch) (D : va_G) (cs : Nat → ClassId) (h : Nat) : CtZ (S := Unit) l D (tyL cs) y_O_init b_O_init 1 (rmc 1 0 0) [.ref h] [(h, .inr (1, [.int 0, .int 0, .int 0, .int 0, .int 0, .int 0]))] (fun _ => True) (fun _ => [(h, .inr (1, [.int 0, .int 0, .int 0, .int 0, .int 0, .int 0]))]) := by
  refine CtZ.intro (by decide) (Nat.le_of_ble_eq_true rfl) ?_
  intro p e s m below meth c A args Q H locs hz X hnm hw kr ls hl
  have X : CX D (tyL cs) R_O b_O_init 1 p m c s args := X
  have hl : lv_has ls 1 [(0, .ref h)] := hl
  refine sy_aload_n X d_O_init_0 hl 0 rfl ?_
  refine hw_obj X (tt_of k152 rfl) hl.1 (by decide) (by decide) d_O_init_1 ?_
  exact kr () H locs _ _ d_O_init_4 hw trivial
set_option maxRecDepth 100000 in
set_option maxHeartbeats 4000000 in
theorem z_Q_init (l : Launch) (D : va_G) (cs : Nat → ClassId) (h : Nat) : CtZ (S := Unit) l D (tyL cs) y_Q_init b_Q_init 1 (rmc 1 0 0) [.ref h] [(h, .inr (2, [.int 0, .int 0, .int 0, .int 0, .int 0, .int 0, .int 0]))] (fun _ => True) (fun _ => [(h, .inr (2, [.int 0, .int 0, .int 0, .int 0, .int 0, .int 0, .int 0]))]) := by
  refine CtZ.intro (by decide) (Nat.le_of_ble_eq_true rfl) ?_
  intro p e s m below meth c A args Q H locs hz X hnm hw kr ls hl
  have X : CX D (tyL cs) R_Q b_Q_init 1 p m c s args := X
  have hl : lv_has ls 1 [(0, .ref h)] := hl
  refine sy_aload_n X d_Q_init_0 hl 0 rfl ?_
  refine hw_obj X (tt_of k68 rfl) hl.1 (by decide) (by decide) d_Q_init_1 ?_
  exact kr () H locs _ _ d_Q_init_4 hw trivial
/-- a new belief at h, its numbers at a, their limbs at b -/
def nB (cs : Nat → ClassId) (h : Nat) (a b : Nat → Nat) : va_W := (h, .inr (0, [.ref (a 0), .ref (a 1), .ref (a 2), .ref (a 3), .ref (a 4), .ref (a 5), .ref (a 6), .ref (a 7), .ref (a 8)])) :: (List.range 9).flatMap (fun k => [(a k, .inr (3, [.ref (b k)])), (b k, aj (cs 1) 5 (fun _ => 0))])
def l9 (x0 x1 x2 x3 x4 x5 x6 x7 x8 : Nat) : Nat → Nat := fun k => match k with
  | 0 => x0
  | 1 => x1
  | 2 => x2
  | 3 => x3
  | 4 => x4
  | 5 => x5
  | 6 => x6
  | 7 => x7
  | _ => x8
set_option maxRecDepth 100000 in
set_option maxHeartbeats 4000000 in
theorem z_B_init (l : Launch) (D : va_G) (cs : Nat → ClassId) (h : Nat) : CtZ (S := (Nat → Nat) × (Nat → Nat)) l D (tyL cs) y_B_init b_B_init 1 (rmc 2 18 54) [.ref h] [(h, .inr (0, [.null, .null, .null, .null, .null, .null, .null, .null, .null]))] (fun _ => True) (fun u => nB cs h u.1 u.2) := by
  refine CtZ.intro (by decide) (Nat.le_of_ble_eq_true rfl) ?_
  intro p e s m below meth c A args Q H locs hz X hnm hw kr ls hl
  have X : CX D (tyL cs) R_B b_B_init 1 p m c s args := X
  have hl : lv_has ls 1 [(0, .ref h)] := hl
  refine sy_aload_n X d_B_init_0 hl 0 rfl ?_
  refine hw_obj X (tt_of k103 rfl) hl.1 (by decide) (by decide) d_B_init_1 ?_
  refine sy_aload_n X d_B_init_4 hl 0 rfl ?_
  refine hw_new (ci := 3) (fs := [.null]) X hw ig_W t_W t_W_ok (tt_of k104 rfl) (tt_of k105 rfl) (tt_of k46 rfl) rfl (fun j hj => by rcases (show j = 0 by omega) with rfl; rfl) (by decide) (by decide) d_B_init_5 (fun a0 H hw => ?_)
  refine sy_dup X d_B_init_8 rfl ?_
  refine call_IN (Xs := [(h, .inr (0, [.null, .null, .null, .null, .null, .null, .null, .null, .null]))]) (rest := [.ref a0, .ref h]) X hz hz.2.2.2.2.2 (tt_of k108 rfl) (tt_of k46 rfl) (tt_of k107 rfl) rfl (by decide +kernel) (z_W_init l D cs a0) ⟨by decide, by decide⟩ hw hl.1 (Nat.le_of_ble_eq_true rfl) d_B_init_9 ⟨by decide, by decide⟩ (fun b0 H locs _ hw => ?_)
  refine hw_putF (ci := 0) (q0 := 0) (k := 0) (ty := .object "ExactEstimates$Whole") X hw ig_B t_B t_B_ok n_B rfl rfl (by decide) (tt_of k115 rfl) rfl hnm rfl (by decide +kernel) rfl rfl (Nat.le_of_ble_eq_true rfl) d_B_init_12 (fun H locs hw => ?_)
  have hw : HW D A s.heap [(h, .inr (0, [.ref a0, .null, .null, .null, .null, .null, .null, .null, .null])), (a0, .inr (3, [.ref b0])), (b0, aj (cs 1) 5 (fun _ => 0))] H locs := hw
  refine sy_aload_n X d_B_init_15 hl 0 rfl ?_
  refine hw_new (ci := 3) (fs := [.null]) X hw ig_W t_W t_W_ok (tt_of k104 rfl) (tt_of k105 rfl) (tt_of k46 rfl) rfl (fun j hj => by rcases (show j = 0 by omega) with rfl; rfl) (by decide) (by decide) d_B_init_16 (fun a1 H hw => ?_)
  refine sy_dup X d_B_init_19 rfl ?_
  refine call_IN (Xs := [(h, .inr (0, [.ref a0, .null, .null, .null, .null, .null, .null, .null, .null])), (a0, .inr (3, [.ref b0])), (b0, aj (cs 1) 5 (fun _ => 0))]) (rest := [.ref a1, .ref h]) X hz hz.2.2.2.2.2 (tt_of k108 rfl) (tt_of k46 rfl) (tt_of k107 rfl) rfl (by decide +kernel) (z_W_init l D cs a1) ⟨by decide, by decide⟩ hw hl.1 (Nat.le_of_ble_eq_true rfl) d_B_init_20 ⟨by decide, by decide⟩ (fun b1 H locs _ hw => ?_)
  refine hw_putF (ci := 0) (q0 := 0) (k := 1) (ty := .object "ExactEstimates$Whole") X hw ig_B t_B t_B_ok n_B rfl rfl (by decide) (tt_of k116 rfl) rfl hnm rfl (by decide +kernel) rfl rfl (Nat.le_of_ble_eq_true rfl) d_B_init_23 (fun H locs hw => ?_)
  have hw : HW D A s.heap [(h, .inr (0, [.ref a0, .ref a1, .null, .null, .null, .null, .null, .null, .null])), (a0, .inr (3, [.ref b0])), (b0, aj (cs 1) 5 (fun _ => 0)), (a1, .inr (3, [.ref b1])), (b1, aj (cs 1) 5 (fun _ => 0))] H locs := hw
  refine sy_aload_n X d_B_init_26 hl 0 rfl ?_
  refine hw_new (ci := 3) (fs := [.null]) X hw ig_W t_W t_W_ok (tt_of k104 rfl) (tt_of k105 rfl) (tt_of k46 rfl) rfl (fun j hj => by rcases (show j = 0 by omega) with rfl; rfl) (by decide) (by decide) d_B_init_27 (fun a2 H hw => ?_)
  refine sy_dup X d_B_init_30 rfl ?_
  refine call_IN (Xs := [(h, .inr (0, [.ref a0, .ref a1, .null, .null, .null, .null, .null, .null, .null])), (a0, .inr (3, [.ref b0])), (b0, aj (cs 1) 5 (fun _ => 0)), (a1, .inr (3, [.ref b1])), (b1, aj (cs 1) 5 (fun _ => 0))]) (rest := [.ref a2, .ref h]) X hz hz.2.2.2.2.2 (tt_of k108 rfl) (tt_of k46 rfl) (tt_of k107 rfl) rfl (by decide +kernel) (z_W_init l D cs a2) ⟨by decide, by decide⟩ hw hl.1 (Nat.le_of_ble_eq_true rfl) d_B_init_31 ⟨by decide, by decide⟩ (fun b2 H locs _ hw => ?_)
  refine hw_putF (ci := 0) (q0 := 0) (k := 2) (ty := .object "ExactEstimates$Whole") X hw ig_B t_B t_B_ok n_B rfl rfl (by decide) (tt_of k117 rfl) rfl hnm rfl (by decide +kernel) rfl rfl (Nat.le_of_ble_eq_true rfl) d_B_init_34 (fun H locs hw => ?_)
  have hw : HW D A s.heap [(h, .inr (0, [.ref a0, .ref a1, .ref a2, .null, .null, .null, .null, .null, .null])), (a0, .inr (3, [.ref b0])), (b0, aj (cs 1) 5 (fun _ => 0)), (a1, .inr (3, [.ref b1])), (b1, aj (cs 1) 5 (fun _ => 0)), (a2, .inr (3, [.ref b2])), (b2, aj (cs 1) 5 (fun _ => 0))] H locs := hw
  refine sy_aload_n X d_B_init_37 hl 0 rfl ?_
  refine hw_new (ci := 3) (fs := [.null]) X hw ig_W t_W t_W_ok (tt_of k104 rfl) (tt_of k105 rfl) (tt_of k46 rfl) rfl (fun j hj => by rcases (show j = 0 by omega) with rfl; rfl) (by decide) (by decide) d_B_init_38 (fun a3 H hw => ?_)
  refine sy_dup X d_B_init_41 rfl ?_
  refine call_IN (Xs := [(h, .inr (0, [.ref a0, .ref a1, .ref a2, .null, .null, .null, .null, .null, .null])), (a0, .inr (3, [.ref b0])), (b0, aj (cs 1) 5 (fun _ => 0)), (a1, .inr (3, [.ref b1])), (b1, aj (cs 1) 5 (fun _ => 0)), (a2, .inr (3, [.ref b2])), (b2, aj (cs 1) 5 (fun _ => 0))]) (rest := [.ref a3, .ref h]) X hz hz.2.2.2.2.2 (tt_of k108 rfl) (tt_of k46 rfl) (tt_of k107 rfl) rfl (by decide +kernel) (z_W_init l D cs a3) ⟨by decide, by decide⟩ hw hl.1 (Nat.le_of_ble_eq_true rfl) d_B_init_42 ⟨by decide, by decide⟩ (fun b3 H locs _ hw => ?_)
  refine hw_putF (ci := 0) (q0 := 0) (k := 3) (ty := .object "ExactEstimates$Whole") X hw ig_B t_B t_B_ok n_B rfl rfl (by decide) (tt_of k118 rfl) rfl hnm rfl (by decide +kernel) rfl rfl (Nat.le_of_ble_eq_true rfl) d_B_init_45 (fun H locs hw => ?_)
  have hw : HW D A s.heap [(h, .inr (0, [.ref a0, .ref a1, .ref a2, .ref a3, .null, .null, .null, .null, .null])), (a0, .inr (3, [.ref b0])), (b0, aj (cs 1) 5 (fun _ => 0)), (a1, .inr (3, [.ref b1])), (b1, aj (cs 1) 5 (fun _ => 0)), (a2, .inr (3, [.ref b2])), (b2, aj (cs 1) 5 (fun _ => 0)), (a3, .inr (3, [.ref b3])), (b3, aj (cs 1) 5 (fun _ => 0))] H locs := hw
  refine sy_aload_n X d_B_init_48 hl 0 rfl ?_
  refine hw_new (ci := 3) (fs := [.null]) X hw ig_W t_W t_W_ok (tt_of k104 rfl) (tt_of k105 rfl) (tt_of k46 rfl) rfl (fun j hj => by rcases (show j = 0 by omega) with rfl; rfl) (by decide) (by decide) d_B_init_49 (fun a4 H hw => ?_)
  refine sy_dup X d_B_init_52 rfl ?_
  refine call_IN (Xs := [(h, .inr (0, [.ref a0, .ref a1, .ref a2, .ref a3, .null, .null, .null, .null, .null])), (a0, .inr (3, [.ref b0])), (b0, aj (cs 1) 5 (fun _ => 0)), (a1, .inr (3, [.ref b1])), (b1, aj (cs 1) 5 (fun _ => 0)), (a2, .inr (3, [.ref b2])), (b2, aj (cs 1) 5 (fun _ => 0)), (a3, .inr (3, [.ref b3])), (b3, aj (cs 1) 5 (fun _ => 0))]) (rest := [.ref a4, .ref h]) X hz hz.2.2.2.2.2 (tt_of k108 rfl) (tt_of k46 rfl) (tt_of k107 rfl) rfl (by decide +kernel) (z_W_init l D cs a4) ⟨by decide, by decide⟩ hw hl.1 (Nat.le_of_ble_eq_true rfl) d_B_init_53 ⟨by decide, by decide⟩ (fun b4 H locs _ hw => ?_)
  refine hw_putF (ci := 0) (q0 := 0) (k := 4) (ty := .object "ExactEstimates$Whole") X hw ig_B t_B t_B_ok n_B rfl rfl (by decide) (tt_of k119 rfl) rfl hnm rfl (by decide +kernel) rfl rfl (Nat.le_of_ble_eq_true rfl) d_B_init_56 (fun H locs hw => ?_)
  have hw : HW D A s.heap [(h, .inr (0, [.ref a0, .ref a1, .ref a2, .ref a3, .ref a4, .null, .null, .null, .null])), (a0, .inr (3, [.ref b0])), (b0, aj (cs 1) 5 (fun _ => 0)), (a1, .inr (3, [.ref b1])), (b1, aj (cs 1) 5 (fun _ => 0)), (a2, .inr (3, [.ref b2])), (b2, aj (cs 1) 5 (fun _ => 0)), (a3, .inr (3, [.ref b3])), (b3, aj (cs 1) 5 (fun _ => 0)), (a4, .inr (3, [.ref b4])), (b4, aj (cs 1) 5 (fun _ => 0))] H locs := hw
  refine sy_aload_n X d_B_init_59 hl 0 rfl ?_
  refine hw_new (ci := 3) (fs := [.null]) X hw ig_W t_W t_W_ok (tt_of k104 rfl) (tt_of k105 rfl) (tt_of k46 rfl) rfl (fun j hj => by rcases (show j = 0 by omega) with rfl; rfl) (by decide) (by decide) d_B_init_60 (fun a5 H hw => ?_)
  refine sy_dup X d_B_init_63 rfl ?_
  refine call_IN (Xs := [(h, .inr (0, [.ref a0, .ref a1, .ref a2, .ref a3, .ref a4, .null, .null, .null, .null])), (a0, .inr (3, [.ref b0])), (b0, aj (cs 1) 5 (fun _ => 0)), (a1, .inr (3, [.ref b1])), (b1, aj (cs 1) 5 (fun _ => 0)), (a2, .inr (3, [.ref b2])), (b2, aj (cs 1) 5 (fun _ => 0)), (a3, .inr (3, [.ref b3])), (b3, aj (cs 1) 5 (fun _ => 0)), (a4, .inr (3, [.ref b4])), (b4, aj (cs 1) 5 (fun _ => 0))]) (rest := [.ref a5, .ref h]) X hz hz.2.2.2.2.2 (tt_of k108 rfl) (tt_of k46 rfl) (tt_of k107 rfl) rfl (by decide +kernel) (z_W_init l D cs a5) ⟨by decide, by decide⟩ hw hl.1 (Nat.le_of_ble_eq_true rfl) d_B_init_64 ⟨by decide, by decide⟩ (fun b5 H locs _ hw => ?_)
  refine hw_putF (ci := 0) (q0 := 0) (k := 5) (ty := .object "ExactEstimates$Whole") X hw ig_B t_B t_B_ok n_B rfl rfl (by decide) (tt_of k121 rfl) rfl hnm rfl (by decide +kernel) rfl rfl (Nat.le_of_ble_eq_true rfl) d_B_init_67 (fun H locs hw => ?_)
  have hw : HW D A s.heap [(h, .inr (0, [.ref a0, .ref a1, .ref a2, .ref a3, .ref a4, .ref a5, .null, .null, .null])), (a0, .inr (3, [.ref b0])), (b0, aj (cs 1) 5 (fun _ => 0)), (a1, .inr (3, [.ref b1])), (b1, aj (cs 1) 5 (fun _ => 0)), (a2, .inr (3, [.ref b2])), (b2, aj (cs 1) 5 (fun _ => 0)), (a3, .inr (3, [.ref b3])), (b3, aj (cs 1) 5 (fun _ => 0)), (a4, .inr (3, [.ref b4])), (b4, aj (cs 1) 5 (fun _ => 0)), (a5, .inr (3, [.ref b5])), (b5, aj (cs 1) 5 (fun _ => 0))] H locs := hw
  refine sy_aload_n X d_B_init_70 hl 0 rfl ?_
  refine hw_new (ci := 3) (fs := [.null]) X hw ig_W t_W t_W_ok (tt_of k104 rfl) (tt_of k105 rfl) (tt_of k46 rfl) rfl (fun j hj => by rcases (show j = 0 by omega) with rfl; rfl) (by decide) (by decide) d_B_init_71 (fun a6 H hw => ?_)
  refine sy_dup X d_B_init_74 rfl ?_
  refine call_IN (Xs := [(h, .inr (0, [.ref a0, .ref a1, .ref a2, .ref a3, .ref a4, .ref a5, .null, .null, .null])), (a0, .inr (3, [.ref b0])), (b0, aj (cs 1) 5 (fun _ => 0)), (a1, .inr (3, [.ref b1])), (b1, aj (cs 1) 5 (fun _ => 0)), (a2, .inr (3, [.ref b2])), (b2, aj (cs 1) 5 (fun _ => 0)), (a3, .inr (3, [.ref b3])), (b3, aj (cs 1) 5 (fun _ => 0)), (a4, .inr (3, [.ref b4])), (b4, aj (cs 1) 5 (fun _ => 0)), (a5, .inr (3, [.ref b5])), (b5, aj (cs 1) 5 (fun _ => 0))]) (rest := [.ref a6, .ref h]) X hz hz.2.2.2.2.2 (tt_of k108 rfl) (tt_of k46 rfl) (tt_of k107 rfl) rfl (by decide +kernel) (z_W_init l D cs a6) ⟨by decide, by decide⟩ hw hl.1 (Nat.le_of_ble_eq_true rfl) d_B_init_75 ⟨by decide, by decide⟩ (fun b6 H locs _ hw => ?_)
  refine hw_putF (ci := 0) (q0 := 0) (k := 6) (ty := .object "ExactEstimates$Whole") X hw ig_B t_B t_B_ok n_B rfl rfl (by decide) (tt_of k122 rfl) rfl hnm rfl (by decide +kernel) rfl rfl (Nat.le_of_ble_eq_true rfl) d_B_init_78 (fun H locs hw => ?_)
  have hw : HW D A s.heap [(h, .inr (0, [.ref a0, .ref a1, .ref a2, .ref a3, .ref a4, .ref a5, .ref a6, .null, .null])), (a0, .inr (3, [.ref b0])), (b0, aj (cs 1) 5 (fun _ => 0)), (a1, .inr (3, [.ref b1])), (b1, aj (cs 1) 5 (fun _ => 0)), (a2, .inr (3, [.ref b2])), (b2, aj (cs 1) 5 (fun _ => 0)), (a3, .inr (3, [.ref b3])), (b3, aj (cs 1) 5 (fun _ => 0)), (a4, .inr (3, [.ref b4])), (b4, aj (cs 1) 5 (fun _ => 0)), (a5, .inr (3, [.ref b5])), (b5, aj (cs 1) 5 (fun _ => 0)), (a6, .inr (3, [.ref b6])), (b6, aj (cs 1) 5 (fun _ => 0))] H locs := hw
  refine sy_aload_n X d_B_init_81 hl 0 rfl ?_
  refine hw_new (ci := 3) (fs := [.null]) X hw ig_W t_W t_W_ok (tt_of k104 rfl) (tt_of k105 rfl) (tt_of k46 rfl) rfl (fun j hj => by rcases (show j = 0 by omega) with rfl; rfl) (by decide) (by decide) d_B_init_82 (fun a7 H hw => ?_)
  refine sy_dup X d_B_init_85 rfl ?_
  refine call_IN (Xs := [(h, .inr (0, [.ref a0, .ref a1, .ref a2, .ref a3, .ref a4, .ref a5, .ref a6, .null, .null])), (a0, .inr (3, [.ref b0])), (b0, aj (cs 1) 5 (fun _ => 0)), (a1, .inr (3, [.ref b1])), (b1, aj (cs 1) 5 (fun _ => 0)), (a2, .inr (3, [.ref b2])), (b2, aj (cs 1) 5 (fun _ => 0)), (a3, .inr (3, [.ref b3])), (b3, aj (cs 1) 5 (fun _ => 0)), (a4, .inr (3, [.ref b4])), (b4, aj (cs 1) 5 (fun _ => 0)), (a5, .inr (3, [.ref b5])), (b5, aj (cs 1) 5 (fun _ => 0)), (a6, .inr (3, [.ref b6])), (b6, aj (cs 1) 5 (fun _ => 0))]) (rest := [.ref a7, .ref h]) X hz hz.2.2.2.2.2 (tt_of k108 rfl) (tt_of k46 rfl) (tt_of k107 rfl) rfl (by decide +kernel) (z_W_init l D cs a7) ⟨by decide, by decide⟩ hw hl.1 (Nat.le_of_ble_eq_true rfl) d_B_init_86 ⟨by decide, by decide⟩ (fun b7 H locs _ hw => ?_)
  refine hw_putF (ci := 0) (q0 := 0) (k := 7) (ty := .object "ExactEstimates$Whole") X hw ig_B t_B t_B_ok n_B rfl rfl (by decide) (tt_of k123 rfl) rfl hnm rfl (by decide +kernel) rfl rfl (Nat.le_of_ble_eq_true rfl) d_B_init_89 (fun H locs hw => ?_)
  have hw : HW D A s.heap [(h, .inr (0, [.ref a0, .ref a1, .ref a2, .ref a3, .ref a4, .ref a5, .ref a6, .ref a7, .null])), (a0, .inr (3, [.ref b0])), (b0, aj (cs 1) 5 (fun _ => 0)), (a1, .inr (3, [.ref b1])), (b1, aj (cs 1) 5 (fun _ => 0)), (a2, .inr (3, [.ref b2])), (b2, aj (cs 1) 5 (fun _ => 0)), (a3, .inr (3, [.ref b3])), (b3, aj (cs 1) 5 (fun _ => 0)), (a4, .inr (3, [.ref b4])), (b4, aj (cs 1) 5 (fun _ => 0)), (a5, .inr (3, [.ref b5])), (b5, aj (cs 1) 5 (fun _ => 0)), (a6, .inr (3, [.ref b6])), (b6, aj (cs 1) 5 (fun _ => 0)), (a7, .inr (3, [.ref b7])), (b7, aj (cs 1) 5 (fun _ => 0))] H locs := hw
  refine sy_aload_n X d_B_init_92 hl 0 rfl ?_
  refine hw_new (ci := 3) (fs := [.null]) X hw ig_W t_W t_W_ok (tt_of k104 rfl) (tt_of k105 rfl) (tt_of k46 rfl) rfl (fun j hj => by rcases (show j = 0 by omega) with rfl; rfl) (by decide) (by decide) d_B_init_93 (fun a8 H hw => ?_)
  refine sy_dup X d_B_init_96 rfl ?_
  refine call_IN (Xs := [(h, .inr (0, [.ref a0, .ref a1, .ref a2, .ref a3, .ref a4, .ref a5, .ref a6, .ref a7, .null])), (a0, .inr (3, [.ref b0])), (b0, aj (cs 1) 5 (fun _ => 0)), (a1, .inr (3, [.ref b1])), (b1, aj (cs 1) 5 (fun _ => 0)), (a2, .inr (3, [.ref b2])), (b2, aj (cs 1) 5 (fun _ => 0)), (a3, .inr (3, [.ref b3])), (b3, aj (cs 1) 5 (fun _ => 0)), (a4, .inr (3, [.ref b4])), (b4, aj (cs 1) 5 (fun _ => 0)), (a5, .inr (3, [.ref b5])), (b5, aj (cs 1) 5 (fun _ => 0)), (a6, .inr (3, [.ref b6])), (b6, aj (cs 1) 5 (fun _ => 0)), (a7, .inr (3, [.ref b7])), (b7, aj (cs 1) 5 (fun _ => 0))]) (rest := [.ref a8, .ref h]) X hz hz.2.2.2.2.2 (tt_of k108 rfl) (tt_of k46 rfl) (tt_of k107 rfl) rfl (by decide +kernel) (z_W_init l D cs a8) ⟨by decide, by decide⟩ hw hl.1 (Nat.le_of_ble_eq_true rfl) d_B_init_97 ⟨by decide, by decide⟩ (fun b8 H locs _ hw => ?_)
  refine hw_putF (ci := 0) (q0 := 0) (k := 8) (ty := .object "ExactEstimates$Whole") X hw ig_B t_B t_B_ok n_B rfl rfl (by decide) (tt_of k125 rfl) rfl hnm rfl (by decide +kernel) rfl rfl (Nat.le_of_ble_eq_true rfl) d_B_init_100 (fun H locs hw => ?_)
  have hw : HW D A s.heap [(h, .inr (0, [.ref a0, .ref a1, .ref a2, .ref a3, .ref a4, .ref a5, .ref a6, .ref a7, .ref a8])), (a0, .inr (3, [.ref b0])), (b0, aj (cs 1) 5 (fun _ => 0)), (a1, .inr (3, [.ref b1])), (b1, aj (cs 1) 5 (fun _ => 0)), (a2, .inr (3, [.ref b2])), (b2, aj (cs 1) 5 (fun _ => 0)), (a3, .inr (3, [.ref b3])), (b3, aj (cs 1) 5 (fun _ => 0)), (a4, .inr (3, [.ref b4])), (b4, aj (cs 1) 5 (fun _ => 0)), (a5, .inr (3, [.ref b5])), (b5, aj (cs 1) 5 (fun _ => 0)), (a6, .inr (3, [.ref b6])), (b6, aj (cs 1) 5 (fun _ => 0)), (a7, .inr (3, [.ref b7])), (b7, aj (cs 1) 5 (fun _ => 0)), (a8, .inr (3, [.ref b8])), (b8, aj (cs 1) 5 (fun _ => 0))] H locs := hw
  exact kr (l9 a0 a1 a2 a3 a4 a5 a6 a7 a8, l9 b0 b1 b2 b3 b4 b5 b6 b7 b8) H locs _ _ d_B_init_103 hw trivial
