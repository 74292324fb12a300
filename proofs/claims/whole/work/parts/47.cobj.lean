/-! observations, passages, beliefs; then the whole numbers -/
def fO (O : Nat → Nat → Int) (i : Nat) : List Value := [.int (iI (O i 0)), .int (iI (O i 1)), .int (iI (O i 2)), .int (iI (O i 3)), .int (iI (O i 4)), .int (iI (O i 5))]
def fQ (P : Nat → Nat → Int) (i : Nat) : List Value := [.int (iI (P i 0)), .int (iI (P i 1)), .int (iI (P i 2)), .int (iI (P i 3)), .int (iI (P i 4)), .int (iI (P i 5)), .int (iI (P i 6))]
def fB (ad : Nat → Nat → Nat) (b : Nat) : List Value := [.ref (ad 0 (9 * b)), .ref (ad 0 (9 * b + 1)), .ref (ad 0 (9 * b + 2)), .ref (ad 0 (9 * b + 3)), .ref (ad 0 (9 * b + 4)), .ref (ad 0 (9 * b + 5)), .ref (ad 0 (9 * b + 6)), .ref (ad 0 (9 * b + 7)), .ref (ad 0 (9 * b + 8))]
def XC (ad : Nat → Nat → Nat) (O P : Nat → Nat → Int) : va_W := (List.range 6).map (fun i => (ad 3 i, .inr (1, fO O i))) ++ ((List.range 4).map (fun i => (ad 4 i, .inr (2, fQ P i))) ++ (List.range 13).map (fun b => (ad 2 b, .inr (0, fB ad b))))
def wO (ad : Nat → Nat → Nat) (cs : Nat → ClassId) (O P : Nat → Nat → Int) (z : Nat → Int) : va_W := XC ad O P ++ wZ ad cs z
theorem mr_get {α : Type} {g : Nat → α} {n i : Nat} (h : i < n) : ((List.range n).map g)[i]? = some (g i) := by simp [h]
theorem mr_set {α : Type} {g g1 : Nat → α} {n i : Nat} {y : α} (h : i < n) (hy : y = g1 i) (ho : ∀ k, k ≠ i → g1 k = g k) : ((List.range n).map g).set i y = (List.range n).map g1 := by
  apply List.ext_getElem?
  intro k
  rw [List.getElem?_set]
  by_cases e : i = k
  · subst e; simp [h, hy]
  · simp only [e, if_false, List.getElem?_map]
    by_cases hk : k < n
    · simp [hk, ho k (Ne.symm e)]
    · simp [hk]
theorem wO_o {ad : Nat → Nat → Nat} {cs : Nat → ClassId} {O P : Nat → Nat → Int} {z : Nat → Int} {i : Nat} (h : i < 6) : (wO ad cs O P z)[i]? = some (ad 3 i, .inr (1, fO O i)) := by
  unfold wO XC
  rw [List.append_assoc, List.getElem?_append_left (by simp; exact h)]; exact mr_get h
theorem wO_q {ad : Nat → Nat → Nat} {cs : Nat → ClassId} {O P : Nat → Nat → Int} {z : Nat → Int} {i : Nat} (h : i < 4) : (wO ad cs O P z)[6 + i]? = some (ad 4 i, .inr (2, fQ P i)) := by
  unfold wO XC
  rw [List.append_assoc, List.getElem?_append_right (by simp)]
  simp only [List.length_map, List.length_range, Nat.add_sub_cancel_left]
  rw [List.append_assoc, List.getElem?_append_left (by simp; exact h)]; exact mr_get h
theorem wO_b {ad : Nat → Nat → Nat} {cs : Nat → ClassId} {O P : Nat → Nat → Int} {z : Nat → Int} {b : Nat} (h : b < 13) : (wO ad cs O P z)[10 + b]? = some (ad 2 b, .inr (0, fB ad b)) := by
  unfold wO XC
  rw [List.append_assoc, List.getElem?_append_right (by simp; omega)]
  simp only [List.length_map, List.length_range]
  rw [show 10 + b - 6 = 4 + b by omega, List.append_assoc, List.getElem?_append_right (by simp)]
  simp only [List.length_map, List.length_range, Nat.add_sub_cancel_left]
  rw [List.getElem?_append_left (by simp; exact h)]; exact mr_get h
theorem fO_set (O : Nat → Nat → Int) (i j : Nat) (x : Int) (hj : j < 6) : (fO O i).set j (.int (iI x)) = fO (up2 O i j x) i := by
  have : j = 0 ∨ j = 1 ∨ j = 2 ∨ j = 3 ∨ j = 4 ∨ j = 5 := by omega
  rcases this with h | h | h | h | h | h <;> subst h <;> simp [fO, up2, up1]
theorem fQ_set (P : Nat → Nat → Int) (i j : Nat) (x : Int) (hj : j < 7) : (fQ P i).set j (.int (iI x)) = fQ (up2 P i j x) i := by
  have : j = 0 ∨ j = 1 ∨ j = 2 ∨ j = 3 ∨ j = 4 ∨ j = 5 ∨ j = 6 := by omega
  rcases this with h | h | h | h | h | h | h <;> subst h <;> simp [fQ, up2, up1]
theorem fO_n (O : Nat → Nat → Int) (i j k : Nat) (x : Int) (h : k ≠ i) : fO (up2 O i j x) k = fO O k := by simp [fO, up2, h]
theorem fQ_n (P : Nat → Nat → Int) (i j k : Nat) (x : Int) (h : k ≠ i) : fQ (up2 P i j x) k = fQ P k := by simp [fQ, up2, h]
theorem wO_setO {ad : Nat → Nat → Nat} {cs : Nat → ClassId} {O P : Nat → Nat → Int} {z : Nat → Int} {i j : Nat} {x : Int} (h : i < 6) (hj : j < 6) : (wO ad cs O P z).set i (ad 3 i, .inr (1, (fO O i).set j (.int (iI x)))) = wO ad cs (up2 O i j x) P z := by
  unfold wO XC
  rw [List.append_assoc, List.append_assoc, List.set_append_left _ _ (by simp; exact h), mr_set (g1 := fun k => (ad 3 k, .inr (1, fO (up2 O i j x) k))) h (by rw [fO_set _ _ _ _ hj]) (fun k hk => by simp only [fO_n _ _ _ _ _ hk])]
  simp only [List.append_assoc]
theorem wO_setQ {ad : Nat → Nat → Nat} {cs : Nat → ClassId} {O P : Nat → Nat → Int} {z : Nat → Int} {i j : Nat} {x : Int} (h : i < 4) (hj : j < 7) : (wO ad cs O P z).set (6 + i) (ad 4 i, .inr (2, (fQ P i).set j (.int (iI x)))) = wO ad cs O (up2 P i j x) z := by
  unfold wO XC
  rw [List.append_assoc, List.append_assoc, List.set_append_right _ _ (by simp)]
  simp only [List.length_map, List.length_range, Nat.add_sub_cancel_left]
  rw [List.append_assoc, List.append_assoc, List.set_append_left _ _ (by simp; exact h), mr_set (g1 := fun k => (ad 4 k, .inr (2, fQ (up2 P i j x) k))) h (by rw [fQ_set _ _ _ _ hj]) (fun k hk => by simp only [fQ_n _ _ _ _ _ hk])]
theorem ig_B : ∀ w ∈ u_ws R_B F_B 9, w ∈ TT := fun w hw => by
  have : ∀ w ∈ u_ws R_B F_B 9, goodWord w = true := by decide +kernel
  exact tt_of (i_B w hw) (this w hw)
theorem ig_O : ∀ w ∈ u_ws R_O F_O 6, w ∈ TT := fun w hw => by
  have : ∀ w ∈ u_ws R_O F_O 6, goodWord w = true := by decide +kernel
  exact tt_of (i_O w hw) (this w hw)
theorem ig_Q : ∀ w ∈ u_ws R_Q F_Q 7, w ∈ TT := fun w hw => by
  have : ∀ w ∈ u_ws R_Q F_Q 7, goodWord w = true := by decide +kernel
  exact tt_of (i_Q w hw) (this w hw)
theorem ap_get {α : Type} {X Y : List α} {i : Nat} {y : α} (h : Y[i]? = some y) : (X ++ Y)[X.length + i]? = some y := by
  rw [List.getElem?_append_right (Nat.le_add_right _ _), Nat.add_sub_cancel_left]; exact h
section CB
variable {p : Program} {l : Launch} {e : Env} {R : Room} {s : State} {m : MethodId} {args : Array Value} {below : List Frame} {meth : Method} {c : Code} {H : Heap} {locs : List Loc} {cells slots : Nat} {Q : State → Prop}
variable {D : va_G} {own : String} {cc : ByteArray} {nL : Nat} {pc : Nat} {ls : Array Slot} {rest : List Value} {A : Nat → Prop} {H0 : Heap} {ad : Nat → Nat → Nat} {cs : Nat → ClassId} {O P : Nat → Nat → Int} {z : Nat → Int}
theorem o_get {idx i : Nat} (X0 : va_W) (X : CX D (tyL cs) own cc nL p m c s args) (hw : HW D A H0 (X0 ++ wO ad cs O P z) H locs) (j : Nat) (hi : i < 6) (hj : j < 6) (hl : Cond.fieldLink own idx (F_O j).1 (F_O j).2.1 (F_O j).2.2.1 ∈ TT) (hd : decode cc pc = .ok (.getfield idx, 3))
    (kk : W p l e R s m args below meth c H locs cells slots Q (F0 m (pc + 3) ls (.int (iI (O i j)) :: rest))) : W p l e R s m args below meth c H locs cells slots Q (F0 m pc ls (.ref (ad 3 i) :: rest)) :=
  sy_get (k := j) (v := .int (iI (O i j))) X hw (ap_get (wO_o hi)) rfl ig_O hj hl (by
    have : j = 0 ∨ j = 1 ∨ j = 2 ∨ j = 3 ∨ j = 4 ∨ j = 5 := by omega
    rcases this with h | h | h | h | h | h <;> subst h <;> rfl) hd kk
theorem q_get {idx i : Nat} (X0 : va_W) (X : CX D (tyL cs) own cc nL p m c s args) (hw : HW D A H0 (X0 ++ wO ad cs O P z) H locs) (j : Nat) (hi : i < 4) (hj : j < 7) (hl : Cond.fieldLink own idx (F_Q j).1 (F_Q j).2.1 (F_Q j).2.2.1 ∈ TT) (hd : decode cc pc = .ok (.getfield idx, 3))
    (kk : W p l e R s m args below meth c H locs cells slots Q (F0 m (pc + 3) ls (.int (iI (P i j)) :: rest))) : W p l e R s m args below meth c H locs cells slots Q (F0 m pc ls (.ref (ad 4 i) :: rest)) :=
  sy_get (k := j) (v := .int (iI (P i j))) X hw (ap_get (wO_q hi)) rfl ig_Q hj hl (by
    have : j = 0 ∨ j = 1 ∨ j = 2 ∨ j = 3 ∨ j = 4 ∨ j = 5 ∨ j = 6 := by omega
    rcases this with h | h | h | h | h | h | h <;> subst h <;> rfl) hd kk
theorem b_get {idx b : Nat} (X0 : va_W) (X : CX D (tyL cs) own cc nL p m c s args) (hw : HW D A H0 (X0 ++ wO ad cs O P z) H locs) (j : Nat) (hb : b < 13) (hj : j < 9) (hl : Cond.fieldLink own idx (F_B j).1 (F_B j).2.1 (F_B j).2.2.1 ∈ TT) (hd : decode cc pc = .ok (.getfield idx, 3))
    (kk : W p l e R s m args below meth c H locs cells slots Q (F0 m (pc + 3) ls (.ref (ad 0 (9 * b + j)) :: rest))) : W p l e R s m args below meth c H locs cells slots Q (F0 m pc ls (.ref (ad 2 b) :: rest)) :=
  sy_get (k := j) (v := .ref (ad 0 (9 * b + j))) X hw (ap_get (wO_b hb)) rfl ig_B hj hl (by
    have : j = 0 ∨ j = 1 ∨ j = 2 ∨ j = 3 ∨ j = 4 ∨ j = 5 ∨ j = 6 ∨ j = 7 ∨ j = 8 := by omega
    rcases this with h | h | h | h | h | h | h | h | h <;> subst h <;> rfl) hd kk
theorem o_put {idx i : Nat} {x : Int} (X : CX D (tyL cs) own cc nL p m c s args) (hw : HW D A H0 (wO ad cs O P z) H locs) (j : Nat) (hi : i < 6) (hj : j < 6) (hl : Cond.fieldLink own idx (F_O j).1 (F_O j).2.1 (F_O j).2.2.1 ∈ TT) (hd : decode cc pc = .ok (.putfield idx, 3))
    (kk : ∀ (H1 : Heap) (locs1 : List Loc), HW D A H0 (wO ad cs (up2 O i j x) P z) H1 locs1 → W p l e R s m args below meth c H1 locs1 cells slots Q (F0 m (pc + 3) ls rest)) : W p l e R s m args below meth c H locs cells slots Q (F0 m pc ls (.int (iI x) :: .ref (ad 3 i) :: rest)) := by
  have hj6 : j = 0 ∨ j = 1 ∨ j = 2 ∨ j = 3 ∨ j = 4 ∨ j = 5 := by omega
  refine va_put (ty := .int) X.1.1 X.1.2.1 X.1.2.2.2.2 (C := R_O) (T := F_O) (N := 6) (ci := 1) ig_O t_O t_O_ok n_O X.1.2.2.2.1 X.2 hw.1 hw.2.1 hw.2.2.1 i (fs := fO O i) (wO_o hi) rfl j hj (X.1.2.2.2.2 _ hl) (fun _ h9 => h9) ?_ ?_ rfl rfl ?_ hd (fun H1 locs1 hP hD hS => ?_)
  · rcases hj6 with h | h | h | h | h | h <;> subst h <;> rfl
  · rcases hj6 with h | h | h | h | h | h <;> subst h <;> decide +kernel
  · show j < 6; omega
  · rw [wO_setO hi hj] at hP hD
    exact kk H1 locs1 ⟨hP, hD, hS, hw.2.2.2⟩
theorem q_put {idx i : Nat} {x : Int} (X : CX D (tyL cs) own cc nL p m c s args) (hw : HW D A H0 (wO ad cs O P z) H locs) (j : Nat) (hi : i < 4) (hj : j < 7) (hl : Cond.fieldLink own idx (F_Q j).1 (F_Q j).2.1 (F_Q j).2.2.1 ∈ TT) (hd : decode cc pc = .ok (.putfield idx, 3))
    (kk : ∀ (H1 : Heap) (locs1 : List Loc), HW D A H0 (wO ad cs O (up2 P i j x) z) H1 locs1 → W p l e R s m args below meth c H1 locs1 cells slots Q (F0 m (pc + 3) ls rest)) : W p l e R s m args below meth c H locs cells slots Q (F0 m pc ls (.int (iI x) :: .ref (ad 4 i) :: rest)) := by
  have hj6 : j = 0 ∨ j = 1 ∨ j = 2 ∨ j = 3 ∨ j = 4 ∨ j = 5 ∨ j = 6 := by omega
  refine va_put (ty := .int) X.1.1 X.1.2.1 X.1.2.2.2.2 (C := R_Q) (T := F_Q) (N := 7) (ci := 2) ig_Q t_Q t_Q_ok n_Q X.1.2.2.2.1 X.2 hw.1 hw.2.1 hw.2.2.1 (6 + i) (fs := fQ P i) (wO_q hi) rfl j hj (X.1.2.2.2.2 _ hl) (fun _ h9 => h9) ?_ ?_ rfl rfl ?_ hd (fun H1 locs1 hP hD hS => ?_)
  · rcases hj6 with h | h | h | h | h | h | h <;> subst h <;> rfl
  · rcases hj6 with h | h | h | h | h | h | h <;> subst h <;> decide +kernel
  · show j < 7; omega
  · rw [wO_setQ hi hj] at hP hD
    exact kk H1 locs1 ⟨hP, hD, hS, hw.2.2.2⟩
end CB
theorem rcv_O {ad : Nat → Nat → Nat} {cs : Nat → ClassId} {O P : Nat → Nat → Int} {z : Nat → Int} {i : Nat} (h : i < 6) : Rcv (wO ad cs O P z) (ad 3 i) R_O := ⟨i, 1, _, _, _, wO_o h, rfl⟩
theorem rcv_Q {ad : Nat → Nat → Nat} {cs : Nat → ClassId} {O P : Nat → Nat → Int} {z : Nat → Int} {i : Nat} (h : i < 4) : Rcv (wO ad cs O P z) (ad 4 i) R_Q := ⟨6 + i, 2, _, _, _, wO_q h, rfl⟩
theorem rcv_B {ad : Nat → Nat → Nat} {cs : Nat → ClassId} {O P : Nat → Nat → Int} {z : Nat → Int} {b : Nat} (h : b < 13) : Rcv (wO ad cs O P z) (ad 2 b) R_B := ⟨10 + b, 0, _, _, _, wO_b h, rfl⟩
theorem rcv_Z {ad : Nat → Nat → Nat} {cs : Nat → ClassId} {z : Nat → Int} {k : Nat} (h : k < 121) : Rcv (wZ ad cs z) (ad 0 k) R_W := rcv_W h
