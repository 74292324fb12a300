abbrev rm (n : Nat) : Room := { frames := n, cells := 0, slots := 0, locals := 32 * n }
/-- a digit of a number, 0 behind its end -/
def dgt (M : Nat → Nat → Int) (x k : Nat) : Int := if (k : Int) < M 2 x then M 1 (110 * x + k) else 0
def Wf (M : Nat → Nat → Int) : Prop := ∀ z, z < 120 → 0 ≤ M 2 z ∧ M 2 z ≤ 110
set_option maxRecDepth 100000 in
set_option maxHeartbeats 4000000 in
theorem c_M_digitOf (l : Launch) (D : va_G) (cs : Nat → ClassId) (ad : Nat → Nat) (M : Nat → Nat → Int) (x k : Nat) (hx : x < 120) (hk : k < 2147483648) (hW : Wf M) : Ct (S := Unit) l D (tyL cs) y_M_digitOf b_M_digitOf 3 (some .int) (rm 1) [.ref (ad 0), .int (iI ((x : Nat) : Int)), .int (iI ((k : Nat) : Int))] (wM ad cs M) (fun _ => True) (fun _ => some (.int (iI (dgt M x k)))) (fun _ => wM ad cs M) := by
  refine Ct.introI (by decide) (Nat.le_of_ble_eq_true rfl) ?_
  intro p e s m below meth c A args Q H locs X hnm hw kr ls hl
  have X : CX D (tyL cs) R_M b_M_digitOf 3 p m c s args := X
  have hl : lv_has ls 3 [(0, .ref (ad 0)), (1, .int (iI ((x : Nat) : Int))), (2, .int (iI ((k : Nat) : Int)))] := hl
  have hu := hW x hx
  refine sy_iload_n X d_M_digitOf_0 hl 2 rfl ?_
  refine sy_aload_n X d_M_digitOf_1 hl 0 rfl ?_
  refine m_get X hw 1 (by decide) rfl (tt_of k510 rfl) d_M_digitOf_2 ?_
  refine sy_iload_n X d_M_digitOf_5 hl 1 rfl ?_
  refine m_ald X hw 2 x (by decide) (by omega) (by simp only [szM]; omega) (M 2 x) rfl d_M_digitOf_6 ?_
  refine sy_icmp_ge (tgt := 24) X d_M_digitOf_7 (by decide) ⟨by omega, by omega⟩ ⟨by omega, by omega⟩ (fun c1 => ?_) (fun c1 => ?_)
  · refine sy_iconst X d_M_digitOf_24 ?_
    exact kr () _ _ _ _ _ d_M_digitOf_25 hw trivial (by simp only [dgt]; split <;> first | rfl | (exfalso; omega))
  · refine sy_aload_n X d_M_digitOf_10 hl 0 rfl ?_
    refine m_get X hw 0 (by decide) rfl (tt_of k509 rfl) d_M_digitOf_11 ?_
    refine sy_bipush X d_M_digitOf_14 (by decide) ?_
    refine sy_iload_n X d_M_digitOf_16 hl 1 rfl ?_
    refine sy_imul X d_M_digitOf_17 ?_
    refine sy_iload_n X d_M_digitOf_18 hl 2 rfl ?_
    refine sy_iadd X d_M_digitOf_19 ?_
    refine m_ald X hw 1 ((110 * x) + k) (by decide) (by omega) (by simp only [szM]; omega) (M 1 ((110 * x) + k)) rfl d_M_digitOf_20 ?_
    refine sy_goto (tgt := 25) X d_M_digitOf_21 (by decide) ?_
    exact kr () _ _ _ _ _ d_M_digitOf_25 hw trivial (by simp only [dgt]; split <;> first | rfl | (exfalso; omega))
