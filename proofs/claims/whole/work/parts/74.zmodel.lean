def M0 : Nat → Nat → Int := fun _ _ => 0
def Ms : Nat → Nat → Int := up2 (up2 (up2 (up2 M0 6 0 1) 6 3 1) 7 0 1) 7 2 1
theorem rep_Ms : Rep Ms (fun _ => 0) := fun y _ => by
  have e : ∀ j, j ≠ 6 → j ≠ 7 → Ms j = M0 j := fun j h6 h7 => by unfold Ms; rw [up2_n _ h7, up2_n _ h7, up2_n _ h6, up2_n _ h6]
  unfold Rp
  rw [e 1 (by decide) (by decide), e 2 (by decide) (by decide), e 3 (by decide) (by decide)]
  refine ⟨0, rfl, by decide, fun k hk => absurd hk (by omega), rfl, Or.inl rfl, rfl⟩
set_option maxRecDepth 100000 in
set_option maxHeartbeats 4000000 in
theorem z_M_init (l : Launch) (D : va_G) (cs : Nat → ClassId) (h : Nat) : CtZ (S := (Nat → Nat) × (Nat → Nat → Int)) l D (tyL cs) y_M_init b_M_init 1 (rmc 4 8 13907) [.ref h] [(h, .inr (5, [.null, .null, .null, .null, .null, .int 0, .int 0, .int 0, .null, .null, .null]))] (fun u => u.1 0 = h ∧ Begun Ms u.2 0 0 1 0 1) (fun u => wM u.1 cs u.2) := by
  refine CtZ.intro (by decide) (Nat.le_of_ble_eq_true rfl) ?_
  intro p e s m below meth c A args Q H locs hz X hnm hw kr ls hl
  have X : CX D (tyL cs) R_M b_M_init 1 p m c s args := X
  have hl : lv_has ls 1 [(0, .ref h)] := hl
  refine sy_aload_n X d_M_init_0 hl 0 rfl ?_
  refine hw_obj X (tt_of k491 rfl) hl.1 (by decide) (by decide) d_M_init_1 ?_
  refine sy_aload_n X d_M_init_4 hl 0 rfl ?_
  refine sy_sipush X d_M_init_5 (by decide) ?_
  refine hw_newi X hw 13200 rfl (by decide) (by decide) (by decide) d_M_init_8 (fun a1 H hw => ?_)
  refine hw_putF (ci := 5) (q0 := 0) (k := 0) (ty := .array .int) X hw ig_M t_M t_M_ok n_M rfl rfl (by decide) (tt_of k509 rfl) rfl hnm rfl (by decide +kernel) rfl rfl (Nat.le_of_ble_eq_true rfl) d_M_init_10 (fun H locs hw => ?_)
  refine sy_aload_n X d_M_init_13 hl 0 rfl ?_
  refine sy_bipush X d_M_init_14 (by decide) ?_
  refine hw_newi X hw 120 rfl (by decide) (by decide) (by decide) d_M_init_16 (fun a2 H hw => ?_)
  refine hw_putF (ci := 5) (q0 := 0) (k := 1) (ty := .array .int) X hw ig_M t_M t_M_ok n_M rfl rfl (by decide) (tt_of k510 rfl) rfl hnm rfl (by decide +kernel) rfl rfl (Nat.le_of_ble_eq_true rfl) d_M_init_18 (fun H locs hw => ?_)
  refine sy_aload_n X d_M_init_21 hl 0 rfl ?_
  refine sy_bipush X d_M_init_22 (by decide) ?_
  refine hw_newi X hw 120 rfl (by decide) (by decide) (by decide) d_M_init_24 (fun a3 H hw => ?_)
  refine hw_putF (ci := 5) (q0 := 0) (k := 2) (ty := .array .int) X hw ig_M t_M t_M_ok n_M rfl rfl (by decide) (tt_of k511 rfl) rfl hnm rfl (by decide +kernel) rfl rfl (Nat.le_of_ble_eq_true rfl) d_M_init_26 (fun H locs hw => ?_)
  refine sy_aload_n X d_M_init_29 hl 0 rfl ?_
  refine sy_sipush X d_M_init_30 (by decide) ?_
  refine hw_newi X hw 224 rfl (by decide) (by decide) (by decide) d_M_init_33 (fun a4 H hw => ?_)
  refine hw_putF (ci := 5) (q0 := 0) (k := 3) (ty := .array .int) X hw ig_M t_M t_M_ok n_M rfl rfl (by decide) (tt_of k512 rfl) rfl hnm rfl (by decide +kernel) rfl rfl (Nat.le_of_ble_eq_true rfl) d_M_init_35 (fun H locs hw => ?_)
  refine sy_aload_n X d_M_init_38 hl 0 rfl ?_
  refine sy_sipush X d_M_init_39 (by decide) ?_
  refine hw_newi X hw 224 rfl (by decide) (by decide) (by decide) d_M_init_42 (fun a5 H hw => ?_)
  refine hw_putF (ci := 5) (q0 := 0) (k := 4) (ty := .array .int) X hw ig_M t_M t_M_ok n_M rfl rfl (by decide) (tt_of k513 rfl) rfl hnm rfl (by decide +kernel) rfl rfl (Nat.le_of_ble_eq_true rfl) d_M_init_44 (fun H locs hw => ?_)
  refine sy_aload_n X d_M_init_47 hl 0 rfl ?_
  refine sy_iconst X d_M_init_48 ?_
  refine hw_newi X hw 4 rfl (by decide) (by decide) (by decide) d_M_init_49 (fun a6 H hw => ?_)
  refine hw_putF (ci := 5) (q0 := 0) (k := 8) (ty := .array .int) X hw ig_M t_M t_M_ok n_M rfl rfl (by decide) (tt_of k517 rfl) rfl hnm rfl (by decide +kernel) rfl rfl (Nat.le_of_ble_eq_true rfl) d_M_init_51 (fun H locs hw => ?_)
  refine sy_aload_n X d_M_init_54 hl 0 rfl ?_
  refine sy_iconst X d_M_init_55 ?_
  refine hw_newi X hw 3 rfl (by decide) (by decide) (by decide) d_M_init_56 (fun a7 H hw => ?_)
  refine hw_putF (ci := 5) (q0 := 0) (k := 9) (ty := .array .int) X hw ig_M t_M t_M_ok n_M rfl rfl (by decide) (tt_of k518 rfl) rfl hnm rfl (by decide +kernel) rfl rfl (Nat.le_of_ble_eq_true rfl) d_M_init_58 (fun H locs hw => ?_)
  refine sy_aload_n X d_M_init_61 hl 0 rfl ?_
  refine sy_bipush X d_M_init_62 (by decide) ?_
  refine hw_newi X hw 12 rfl (by decide) (by decide) (by decide) d_M_init_64 (fun a8 H hw => ?_)
  refine hw_putF (ci := 5) (q0 := 0) (k := 10) (ty := .array .int) X hw ig_M t_M t_M_ok n_M rfl rfl (by decide) (tt_of k519 rfl) rfl hnm rfl (by decide +kernel) rfl rfl (Nat.le_of_ble_eq_true rfl) d_M_init_66 (fun H locs hw => ?_)
  have hw : HW D A s.heap (wM (l9 h a1 a2 a3 a4 a5 a6 a7 a8) cs M0) H locs := hw
  have hl : lv_has ls 1 [(0, .ref ((l9 h a1 a2 a3 a4 a5 a6 a7 a8) 0))] := hl
  refine sy_aload_n X d_M_init_69 hl 0 rfl ?_
  refine m_get X hw 8 (by decide) rfl (tt_of k517 rfl) d_M_init_70 ?_
  refine sy_iconst X d_M_init_73 ?_
  refine sy_iconst X d_M_init_74 ?_
  refine m_ast X hw 6 0 (by decide) rfl (by decide) d_M_init_75 (fun H locs hw => ?_)
  refine sy_aload_n X d_M_init_76 hl 0 rfl ?_
  refine m_get X hw 8 (by decide) rfl (tt_of k517 rfl) d_M_init_77 ?_
  refine sy_iconst X d_M_init_80 ?_
  refine sy_iconst X d_M_init_81 ?_
  refine m_ast X hw 6 3 (by decide) rfl (by decide) d_M_init_82 (fun H locs hw => ?_)
  refine sy_aload_n X d_M_init_83 hl 0 rfl ?_
  refine m_get X hw 9 (by decide) rfl (tt_of k518 rfl) d_M_init_84 ?_
  refine sy_iconst X d_M_init_87 ?_
  refine sy_iconst X d_M_init_88 ?_
  refine m_ast X hw 7 0 (by decide) rfl (by decide) d_M_init_89 (fun H locs hw => ?_)
  refine sy_aload_n X d_M_init_90 hl 0 rfl ?_
  refine m_get X hw 9 (by decide) rfl (tt_of k518 rfl) d_M_init_91 ?_
  refine sy_iconst X d_M_init_94 ?_
  refine sy_iconst X d_M_init_95 ?_
  refine m_ast X hw 7 2 (by decide) rfl (by decide) d_M_init_96 (fun H locs hw => ?_)
  have hw : HW D A s.heap (wM (l9 h a1 a2 a3 a4 a5 a6 a7 a8) cs Ms) H locs := hw
  refine sy_aload_n X d_M_init_97 hl 0 rfl ?_
  refine sy_iconst X d_M_init_98 ?_
  refine sy_iconst X d_M_init_99 ?_
  refine sy_iconst X d_M_init_100 ?_
  refine sy_iconst X d_M_init_101 ?_
  refine sy_iconst X d_M_init_102 ?_
  refine call_Vv (Xs := []) (b := (l9 h a1 a2 a3 a4 a5 a6 a7 a8) 0) (As := [.int (iI 0), .int (iI 0), .int (iI 1), .int (iI 0), .int (iI 1)]) (rest := []) X lk_M_34 (c_M_begin l D cs (l9 h a1 a2 a3 a4 a5 a6 a7 a8) Ms (fun _ => 0) 0 0 1 0 1 ⟨by decide, by decide⟩ ⟨by decide, by decide⟩ ⟨by decide, by decide⟩ ⟨by decide, by decide⟩ ⟨by decide, by decide⟩ rep_Ms) ⟨by decide, by decide⟩ ⟨0, 5, _, _, _, rfl, rfl⟩ hw rfl hl.1 (Nat.le_of_ble_eq_true rfl) d_M_init_103 rfl rfl ⟨by decide, by decide⟩ (fun M1 H locs hp hw => ?_)
  exact kr ((l9 h a1 a2 a3 a4 a5 a6 a7 a8), M1) H locs _ _ d_M_init_106 hw ⟨rfl, hp⟩
