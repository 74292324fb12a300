/-! the object itself -/
def fE (ad : Nat → Nat → Nat) (E : Nat → Nat → Int) : List Value := [.ref (ad 5 1), .ref (ad 5 2), .ref (ad 5 3), .ref (ad 5 4), .ref (ad 4 3), .int (iI (E 0 0)), .int (iI (E 0 1)), .ref (ad 2 10), .ref (ad 2 11), .ref (ad 2 12), .ref (ad 0 117), .ref (ad 0 118), .ref (ad 0 119), .ref (ad 0 120)]
def arf (c : ClassId) (n : Nat) (f : Nat → Nat) : va_E := .inl (c, n, .inr (.inr (.inr (.inr (fun k => some (f k))))))
def XE (ad : Nat → Nat → Nat) (cs : Nat → ClassId) (E : Nat → Nat → Int) : va_W := [(ad 5 0, .inr (4, fE ad E)), (ad 5 1, arf (cs 2) 10 (ad 2)), (ad 5 2, ar (cs 0) 4 (E 1)), (ad 5 3, arf (cs 3) 6 (ad 3)), (ad 5 4, arf (cs 4) 3 (ad 4))]
def wE (ad : Nat → Nat → Nat) (cs : Nat → ClassId) (E O P : Nat → Nat → Int) (z : Nat → Int) : va_W := XE ad cs E ++ wO ad cs O P z
theorem ig_E : ∀ w ∈ u_ws R_E F_E 14, w ∈ TT := fun w hw => by
  have : ∀ w ∈ u_ws R_E F_E 14, goodWord w = true := by decide +kernel
  exact tt_of (i_E w hw) (this w hw)
theorem rcv_E {ad : Nat → Nat → Nat} {cs : Nat → ClassId} {E O P : Nat → Nat → Int} {z : Nat → Int} : Rcv (wE ad cs E O P z) (ad 5 0) R_E := ⟨0, 4, _, _, _, rfl, rfl⟩
section CE
variable {p : Program} {l : Launch} {e : Env} {R : Room} {s : State} {m : MethodId} {args : Array Value} {below : List Frame} {meth : Method} {c : Code} {H : Heap} {locs : List Loc} {cells slots : Nat} {Q : State → Prop}
variable {D : va_G} {cc : ByteArray} {nL : Nat} {pc : Nat} {ls : Array Slot} {rest : List Value} {A : Nat → Prop} {H0 : Heap} {ad : Nat → Nat → Nat} {cs : Nat → ClassId} {E O P : Nat → Nat → Int} {z : Nat → Int}
theorem e_get {idx : Nat} {v : Value} (X : CX D (tyL cs) R_E cc nL p m c s args) (hw : HW D A H0 (wE ad cs E O P z) H locs) (k : Nat) (hk : k < 14) (hv : (fE ad E)[k]? = some v) (hl : Cond.fieldLink R_E idx (F_E k).1 (F_E k).2.1 (F_E k).2.2.1 ∈ TT) (hd : decode cc pc = .ok (.getfield idx, 3))
    (kk : W p l e R s m args below meth c H locs cells slots Q (F0 m (pc + 3) ls (v :: rest))) : W p l e R s m args below meth c H locs cells slots Q (F0 m pc ls (.ref (ad 5 0) :: rest)) :=
  sy_get (q0 := 0) (ci := 4) X hw rfl rfl ig_E hk hl hv hd kk
theorem e_put {idx : Nat} {x : Int} (X : CX D (tyL cs) R_E cc nL p m c s args) (hw : HW D A H0 (wE ad cs E O P z) H locs) (k : Nat) (hk : k < 2) (hl : Cond.fieldLink R_E idx (F_E (k + 5)).1 (F_E (k + 5)).2.1 (F_E (k + 5)).2.2.1 ∈ TT) (hd : decode cc pc = .ok (.putfield idx, 3))
    (kk : ∀ (H1 : Heap) (locs1 : List Loc), HW D A H0 (wE ad cs (up2 E 0 k x) O P z) H1 locs1 → W p l e R s m args below meth c H1 locs1 cells slots Q (F0 m (pc + 3) ls rest)) : W p l e R s m args below meth c H locs cells slots Q (F0 m pc ls (.int (iI x) :: .ref (ad 5 0) :: rest)) := by
  have hk2 : k = 0 ∨ k = 1 := by omega
  refine va_put (ty := .int) X.1.1 X.1.2.1 X.1.2.2.2.2 (C := R_E) (T := F_E) (N := 14) (ci := 4) ig_E t_E t_E_ok n_E X.1.2.2.2.1 X.2 hw.1 hw.2.1 hw.2.2.1 0 (fs := fE ad E) rfl rfl (k + 5) (by omega) (X.1.2.2.2.2 _ hl) (fun _ h9 => h9) ?_ ?_ rfl rfl ?_ hd (fun H1 locs1 hP hD hS => ?_)
  · rcases hk2 with h | h <;> subst h <;> rfl
  · rcases hk2 with h | h <;> subst h <;> decide +kernel
  · show k + 5 < 14; omega
  · have e1 : (wE ad cs E O P z).set 0 (ad 5 0, .inr (4, (fE ad E).set (k + 5) (.int (iI x)))) = wE ad cs (up2 E 0 k x) O P z := by
      unfold wE
      rcases hk2 with h | h <;> subst h <;> simp [XE, fE, up2, up1]
    rw [e1] at hP hD
    exact kk H1 locs1 ⟨hP, hD, hS, hw.2.2.2⟩
theorem e_ald {i : Int} (X : CX D (tyL cs) R_E cc nL p m c s args) (hw : HW D A H0 (wE ad cs E O P z) H locs) (k : Nat) (hi : i = (k : Int)) (hk : k < 4) (v : Int) (hv : E 1 k = v) (hd : decode cc pc = .ok (.iaload, 1))
    (kk : W p l e R s m args below meth c H locs cells slots Q (F0 m (pc + 1) ls (.int (iI v) :: rest))) : W p l e R s m args below meth c H locs cells slots Q (F0 m pc ls (.int (iI i) :: .ref (ad 5 2) :: rest)) := by
  subst hi
  subst hv
  refine va_iald X.1.1 X.1.2.1 X.2 hw.1 2 0 (f := fun k => iI (E 1 k)) rfl rfl (iI_in (n := 4) (Int.natCast_nonneg k) (by omega) (by decide)) hd ?_
  rw [iI_cl (Int.natCast_nonneg k) (by omega), Int.toNat_natCast]
  exact kk
theorem e_ast {i x : Int} (X : CX D (tyL cs) R_E cc nL p m c s args) (hw : HW D A H0 (wE ad cs E O P z) H locs) (k : Nat) (hi : i = (k : Int)) (hk : k < 4) (hd : decode cc pc = .ok (.iastore, 1))
    (kk : ∀ (H1 : Heap) (locs1 : List Loc), HW D A H0 (wE ad cs (up2 E 1 k x) O P z) H1 locs1 → W p l e R s m args below meth c H1 locs1 cells slots Q (F0 m (pc + 1) ls rest)) : W p l e R s m args below meth c H locs cells slots Q (F0 m pc ls (.int (iI x) :: .int (iI i) :: .ref (ad 5 2) :: rest)) := by
  subst hi
  refine va_iast X.1.1 X.1.2.1 X.2 hw.1 hw.2.1 hw.2.2.1 2 0 (n := 4) (f := fun k => iI (E 1 k)) rfl rfl (iI_in (n := 4) (Int.natCast_nonneg k) (by omega) (by decide)) hd (fun H1 locs1 hP hD hS => ?_)
  rw [iI_cl (Int.natCast_nonneg k) (by omega), Int.toNat_natCast, ar_set] at hP hD
  have e1 : (wE ad cs E O P z).set 2 (ad 5 2, ar (cs 0) 4 (up1 (E 1) k x)) = wE ad cs (up2 E 1 k x) O P z := by
    unfold wE; simp [XE, fE, up2]
  rw [e1] at hP hD
  exact kk H1 locs1 ⟨hP, hD, hS, hw.2.2.2⟩
theorem e_aldB {i : Int} (X : CX D (tyL cs) R_E cc nL p m c s args) (hw : HW D A H0 (wE ad cs E O P z) H locs) (k : Nat) (hi : i = (k : Int)) (hk : k < 10) (hd : decode cc pc = .ok (.aaload, 1))
    (kk : W p l e R s m args below meth c H locs cells slots Q (F0 m (pc + 1) ls (.ref (ad 2 k) :: rest))) : W p l e R s m args below meth c H locs cells slots Q (F0 m pc ls (.int (iI i) :: .ref (ad 5 1) :: rest)) := by
  subst hi
  refine va_aldq X.1.1 X.1.2.1 X.2 hw.1 1 2 (n := 10) (f := fun k => some (ad 2 k)) rfl rfl (iI_in (n := 10) (Int.natCast_nonneg k) (by omega) (by decide)) hd ?_
  rw [iI_cl (Int.natCast_nonneg k) (by omega), Int.toNat_natCast]
  exact kk
theorem e_aldO {i : Int} (X : CX D (tyL cs) R_E cc nL p m c s args) (hw : HW D A H0 (wE ad cs E O P z) H locs) (k : Nat) (hi : i = (k : Int)) (hk : k < 6) (hd : decode cc pc = .ok (.aaload, 1))
    (kk : W p l e R s m args below meth c H locs cells slots Q (F0 m (pc + 1) ls (.ref (ad 3 k) :: rest))) : W p l e R s m args below meth c H locs cells slots Q (F0 m pc ls (.int (iI i) :: .ref (ad 5 3) :: rest)) := by
  subst hi
  refine va_aldq X.1.1 X.1.2.1 X.2 hw.1 3 3 (n := 6) (f := fun k => some (ad 3 k)) rfl rfl (iI_in (n := 6) (Int.natCast_nonneg k) (by omega) (by decide)) hd ?_
  rw [iI_cl (Int.natCast_nonneg k) (by omega), Int.toNat_natCast]
  exact kk
theorem e_aldQ {i : Int} (X : CX D (tyL cs) R_E cc nL p m c s args) (hw : HW D A H0 (wE ad cs E O P z) H locs) (k : Nat) (hi : i = (k : Int)) (hk : k < 3) (hd : decode cc pc = .ok (.aaload, 1))
    (kk : W p l e R s m args below meth c H locs cells slots Q (F0 m (pc + 1) ls (.ref (ad 4 k) :: rest))) : W p l e R s m args below meth c H locs cells slots Q (F0 m pc ls (.int (iI i) :: .ref (ad 5 4) :: rest)) := by
  subst hi
  refine va_aldq X.1.1 X.1.2.1 X.2 hw.1 4 4 (n := 3) (f := fun k => some (ad 4 k)) rfl rfl (iI_in (n := 3) (Int.natCast_nonneg k) (by omega) (by decide)) hd ?_
  rw [iI_cl (Int.natCast_nonneg k) (by omega), Int.toNat_natCast]
  exact kk
theorem HW.toE (hw : HW D A H0 ((XE ad cs E ++ XC ad O P) ++ wZ ad cs z) H locs) : HW D A H0 (wE ad cs E O P z) H locs := by
  rw [List.append_assoc] at hw; exact hw
theorem HW.ofE (hw : HW D A H0 (wE ad cs E O P z) H locs) : HW D A H0 ((XE ad cs E ++ XC ad O P) ++ wZ ad cs z) H locs := by
  rw [List.append_assoc]; exact hw
end CE
