/-! rows of the law -/
/-- the script's number -/
def vX (xs : Nat → Int32) (j : Nat) : Int := (xs j).toInt
theorem vX_R (xs : Nat → Int32) (j : Nat) : R31 (vX xs j) := iI_R _
def bz (v : Int) : Int := if v = 0 then 0 else 1
theorem bz_01 (v : Int) : bz v = 0 ∨ bz v = 1 := by
  unfold bz
  split
  · exact Or.inl rfl
  · exact Or.inr rfl
theorem bz_R (v : Int) : R31 (bz v) := by
  rcases bz_01 v with h | h <;> rw [h] <;> constructor <;> decide
def LX (D : va_G) (cs : Nat → ClassId) (p : Program) (m : MethodId) (c : Code) (s : State) (b L : Nat) (xs : Nat → Int32) : Prop :=
  CX D (tyL cs) R_L code 4 p m c s #[Value.ref b] ∧ va_X b L xs s s.heap ∧ b < s.heap.size ∧ L ≤ 3072
abbrev lL (b q1 q2 i : Nat) : List (Nat × Value) := [(0, .ref b), (1, .ref q1), (2, .ref q2), (3, .int (iI (i : Int)))]
abbrev AL (s : State) : Nat → Prop := fun q => s.heap.size ≤ q
section LR
variable {p : Program} {l : Launch} {e : Env} {s : State} {m : MethodId} {below : List Frame} {meth : Method} {c : Code} {H : Heap} {locs : List Loc} {cells slots : Nat} {Q : State → Prop}
variable {D : va_G} {cs : Nat → ClassId} {pc : Nat} {ls : Array Slot} {rest : List Value} {b L i : Nat} {xs : Nat → Int32} {q1 q2 : Nat} {ws : va_W}
theorem sc_ld (X : LX D cs p m c s b L xs) (hw : HW D (AL s) s.heap ws H locs) {x : Int} (j : Nat) (hx : x = (j : Int)) (hj : j < L) (hd : decode code pc = .ok (.iaload, 1))
    (kk : W p l e room_1 s m #[Value.ref b] below meth c H locs cells slots Q (F0 m (pc + 1) ls (.int (iI (vX xs j)) :: rest))) : W p l e room_1 s m #[Value.ref b] below meth c H locs cells slots Q (F0 m pc ls (.int (iI x) :: .ref b :: rest)) := by
  subst hx
  have h72 := X.2.2.2
  refine va_sld (A := AL s) X.1.1.1 X.1.1.2.1 X.2.1 X.2.2.1 (Nat.not_le.mpr X.2.2.1) hw.2.2.1 (iI_in (Int.natCast_nonneg j) (by omega) (by omega)) hd ?_
  rw [iI_cl (Int.natCast_nonneg j) (by omega), Int.toNat_natCast]
  rw [vX, iI_of] at kk
  exact kk
theorem sc_arg (X : LX D cs p m c s b L xs) (hw : HW D (AL s) s.heap ws H locs) (hl : lv_has ls 4 (lL b q1 q2 i)) {k : Int} (n : Nat) (hk : k = (n : Int)) (hi : i + n < L) (d0 : decode code pc = .ok (.aload_n 0, 1)) (d1 : decode code (pc + 1) = .ok (.iload_n 3, 1)) (d2 : decode code (pc + 2) = .ok (.iconst k, 1)) (d3 : decode code (pc + 3) = .ok (.iadd, 1)) (d4 : decode code (pc + 4) = .ok (.iaload, 1))
    (kk : W p l e room_1 s m #[Value.ref b] below meth c H locs cells slots Q (F0 m (pc + 5) ls (.int (iI (vX xs (i + n))) :: rest))) : W p l e room_1 s m #[Value.ref b] below meth c H locs cells slots Q (F0 m pc ls rest) := by
  refine sy_aload_n X.1 d0 hl 0 rfl ?_
  refine sy_iload_n X.1 d1 hl 3 rfl ?_
  refine sy_iconst X.1 d2 ?_
  refine sy_iadd X.1 d3 ?_
  exact sc_ld X hw (i + n) (by omega) hi d4 kk
theorem sc_bool (X : LX D cs p m c s b L xs) {v : Int} (hv : R31 v) (d0 : decode code pc = .ok (.ifCond .eq 7, 3)) (d1 : decode code (pc + 3) = .ok (.iconst 1, 1)) (d2 : decode code (pc + 4) = .ok (.goto 4, 3)) (d3 : decode code (pc + 7) = .ok (.iconst 0, 1))
    (kk : W p l e room_1 s m #[Value.ref b] below meth c H locs cells slots Q (F0 m (pc + 8) ls (.int (iI (bz v)) :: rest))) : W p l e room_1 s m #[Value.ref b] below meth c H locs cells slots Q (F0 m pc ls (.int (iI v) :: rest)) := by
  refine sy_if_eq (tgt := pc + 7) X.1 d0 (by omega) hv (fun h => ?_) (fun h => ?_)
  · refine sy_iconst X.1 d3 ?_
    rw [bz, if_pos h] at kk
    exact kk
  · refine sy_iconst X.1 d1 ?_
    refine sy_goto (tgt := pc + 8) X.1 d2 (by omega) ?_
    rw [bz, if_neg h] at kk
    exact kk
theorem sc_same (X : LX D cs p m c s b L xs) {a1 a2 off : Int} (h : a1 = a2) (d : decode code pc = .ok (.if_icmp .eq off, 3)) (ht : (pc : Int) + off = 598)
    (kk : W p l e room_1 s m #[Value.ref b] below meth c H locs cells slots Q (F0 m 598 ls rest)) : W p l e room_1 s m #[Value.ref b] below meth c H locs cells slots Q (F0 m pc ls (.int (iI a2) :: .int (iI a1) :: rest)) := by
  subst h
  exact lv_icmp_eq (tgt := 598) X.1.1.1 X.1.1.2.1 d ht (fun _ => kk) (fun g => absurd rfl g)
end LR
