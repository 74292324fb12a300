section Cl
variable {p : Program} {l : Launch} {e : Env} {R : Room} {s : State} {m : MethodId} {args : Array Value} {below : List Frame} {meth : Method} {c : Code} {H : Heap} {locs : List Loc} {cells slots : Nat} {Q : State → Prop}
variable {D : va_G} {tys : List (ClassId × FieldType)} {own : String} {cc : ByteArray} {nL : Nat} {pc : Nat} {ls : Array Slot} {rest : List Value} {A : Nat → Prop} {H0 : Heap}
theorem call_Vv {S : Type} {y : MethodName} {bytes : ByteArray} {maxL n idx b : Nat} {ret : Option FieldType} {rm : Room} {As : List Value} {ws0 Xs : va_W} {post : S → Prop} {ws1 : S → va_W} {C : String}
    (X : CX D tys own cc nL p m c s args) (hL : LkV own idx C y bytes maxL ret n) (hC : Ct l D tys y bytes maxL ret rm (.ref b :: As) ws0 post (fun _ => none) ws1) (hR : rm.frames + 1 ≤ R.frames ∧ 8 + (maxL + 11) + rm.locals ≤ R.locals) (hb : Rcv ws0 b C)
    (hw : HW D A H0 (Xs ++ ws0) H locs) (hn : As.length = n) (hls : ls.size = nL) (hrest : (rest.map fun v => v.category).sum ≤ 8) (hd : decode cc pc = .ok (.invokevirtual idx, 3)) (hc : rm.cells = 0) (hs : rm.slots = 0) (hf : cells ≤ R.cells ∧ slots ≤ R.slots)
    (kk : ∀ (u : S) (H1 : Heap) (locs1 : List Loc), post u → HW D A H0 (Xs ++ ws1 u) H1 locs1 → W p l e R s m args below meth c H1 locs1 cells slots Q (F0 m (pc + 3) ls rest)) : W p l e R s m args below meth c H locs cells slots Q (F0 m pc ls (As.reverse ++ .ref b :: rest)) := by
  refine call_V X hL hC hR hb hw hn hls hrest hd (by rw [hc, hs]; exact hf) ?_
  rw [hc, hs]; exact kk
theorem call_Vi {S : Type} {rf : S → Int} {y : MethodName} {bytes : ByteArray} {maxL n idx b : Nat} {ret : Option FieldType} {rm : Room} {As : List Value} {ws0 Xs : va_W} {post : S → Prop} {ws1 : S → va_W} {C : String}
    (X : CX D tys own cc nL p m c s args) (hL : LkV own idx C y bytes maxL ret n) (hC : Ct l D tys y bytes maxL ret rm (.ref b :: As) ws0 post (fun u => some (.int (iI (rf u)))) ws1) (hR : rm.frames + 1 ≤ R.frames ∧ 8 + (maxL + 11) + rm.locals ≤ R.locals) (hb : Rcv ws0 b C)
    (hw : HW D A H0 (Xs ++ ws0) H locs) (hn : As.length = n) (hls : ls.size = nL) (hrest : (rest.map fun v => v.category).sum ≤ 8) (hd : decode cc pc = .ok (.invokevirtual idx, 3)) (hc : rm.cells = 0) (hs : rm.slots = 0) (hf : cells ≤ R.cells ∧ slots ≤ R.slots)
    (kk : ∀ (u : S) (H1 : Heap) (locs1 : List Loc), post u → HW D A H0 (Xs ++ ws1 u) H1 locs1 → W p l e R s m args below meth c H1 locs1 cells slots Q (F0 m (pc + 3) ls (.int (iI (rf u)) :: rest))) : W p l e R s m args below meth c H locs cells slots Q (F0 m pc ls (As.reverse ++ .ref b :: rest)) := by
  refine call_V X hL hC hR hb hw hn hls hrest hd (by rw [hc, hs]; exact hf) ?_
  rw [hc, hs]; exact kk
theorem call_Vj {S : Type} {rf : S → Int} {y : MethodName} {bytes : ByteArray} {maxL n idx b : Nat} {ret : Option FieldType} {rm : Room} {As : List Value} {ws0 Xs : va_W} {post : S → Prop} {ws1 : S → va_W} {C : String}
    (X : CX D tys own cc nL p m c s args) (hL : LkV own idx C y bytes maxL ret n) (hC : Ct l D tys y bytes maxL ret rm (.ref b :: As) ws0 post (fun u => some (.long (jI (rf u)))) ws1) (hR : rm.frames + 1 ≤ R.frames ∧ 8 + (maxL + 11) + rm.locals ≤ R.locals) (hb : Rcv ws0 b C)
    (hw : HW D A H0 (Xs ++ ws0) H locs) (hn : As.length = n) (hls : ls.size = nL) (hrest : (rest.map fun v => v.category).sum ≤ 8) (hd : decode cc pc = .ok (.invokevirtual idx, 3)) (hc : rm.cells = 0) (hs : rm.slots = 0) (hf : cells ≤ R.cells ∧ slots ≤ R.slots)
    (kk : ∀ (u : S) (H1 : Heap) (locs1 : List Loc), post u → HW D A H0 (Xs ++ ws1 u) H1 locs1 → W p l e R s m args below meth c H1 locs1 cells slots Q (F0 m (pc + 3) ls (.long (jI (rf u)) :: rest))) : W p l e R s m args below meth c H locs cells slots Q (F0 m pc ls (As.reverse ++ .ref b :: rest)) := by
  refine call_V X hL hC hR hb hw hn hls hrest hd (by rw [hc, hs]; exact hf) ?_
  rw [hc, hs]; exact kk
theorem call_Vr {S : Type} {rf : S → Nat} {y : MethodName} {bytes : ByteArray} {maxL n idx b : Nat} {ret : Option FieldType} {rm : Room} {As : List Value} {ws0 Xs : va_W} {post : S → Prop} {ws1 : S → va_W} {C : String}
    (X : CX D tys own cc nL p m c s args) (hL : LkV own idx C y bytes maxL ret n) (hC : Ct l D tys y bytes maxL ret rm (.ref b :: As) ws0 post (fun u => some (.ref (rf u))) ws1) (hR : rm.frames + 1 ≤ R.frames ∧ 8 + (maxL + 11) + rm.locals ≤ R.locals) (hb : Rcv ws0 b C)
    (hw : HW D A H0 (Xs ++ ws0) H locs) (hn : As.length = n) (hls : ls.size = nL) (hrest : (rest.map fun v => v.category).sum ≤ 8) (hd : decode cc pc = .ok (.invokevirtual idx, 3)) (hc : rm.cells = 0) (hs : rm.slots = 0) (hf : cells ≤ R.cells ∧ slots ≤ R.slots)
    (kk : ∀ (u : S) (H1 : Heap) (locs1 : List Loc), post u → HW D A H0 (Xs ++ ws1 u) H1 locs1 → W p l e R s m args below meth c H1 locs1 cells slots Q (F0 m (pc + 3) ls (.ref (rf u) :: rest))) : W p l e R s m args below meth c H locs cells slots Q (F0 m pc ls (As.reverse ++ .ref b :: rest)) := by
  refine call_V X hL hC hR hb hw hn hls hrest hd (by rw [hc, hs]; exact hf) ?_
  rw [hc, hs]; exact kk
theorem call_Si {S : Type} {rf : S → Int} {y : MethodName} {bytes : ByteArray} {maxL n idx : Nat} {ret : Option FieldType} {rm : Room} {As : List Value} {ws0 Xs : va_W} {post : S → Prop} {ws1 : S → va_W}
    (X : CX D tys own cc nL p m c s args) (hL : LkS own idx y bytes maxL ret n) (hC : Ct l D tys y bytes maxL ret rm As ws0 post (fun u => some (.int (iI (rf u)))) ws1) (hR : rm.frames + 1 ≤ R.frames ∧ 8 + (maxL + 11) + rm.locals ≤ R.locals)
    (hw : HW D A H0 (Xs ++ ws0) H locs) (hn : As.length = n) (hls : ls.size = nL) (hrest : (rest.map fun v => v.category).sum ≤ 8) (hd : decode cc pc = .ok (.invokestatic idx, 3)) (hc : rm.cells = 0) (hs : rm.slots = 0) (hf : cells ≤ R.cells ∧ slots ≤ R.slots)
    (kk : ∀ (u : S) (H1 : Heap) (locs1 : List Loc), post u → HW D A H0 (Xs ++ ws1 u) H1 locs1 → W p l e R s m args below meth c H1 locs1 cells slots Q (F0 m (pc + 3) ls (.int (iI (rf u)) :: rest))) : W p l e R s m args below meth c H locs cells slots Q (F0 m pc ls (As.reverse ++ rest)) := by
  refine call_S X hL hC hR hw hn hls hrest hd (by rw [hc, hs]; exact hf) ?_
  rw [hc, hs]; exact kk
theorem call_Sj {S : Type} {rf : S → Int} {y : MethodName} {bytes : ByteArray} {maxL n idx : Nat} {ret : Option FieldType} {rm : Room} {As : List Value} {ws0 Xs : va_W} {post : S → Prop} {ws1 : S → va_W}
    (X : CX D tys own cc nL p m c s args) (hL : LkS own idx y bytes maxL ret n) (hC : Ct l D tys y bytes maxL ret rm As ws0 post (fun u => some (.long (jI (rf u)))) ws1) (hR : rm.frames + 1 ≤ R.frames ∧ 8 + (maxL + 11) + rm.locals ≤ R.locals)
    (hw : HW D A H0 (Xs ++ ws0) H locs) (hn : As.length = n) (hls : ls.size = nL) (hrest : (rest.map fun v => v.category).sum ≤ 8) (hd : decode cc pc = .ok (.invokestatic idx, 3)) (hc : rm.cells = 0) (hs : rm.slots = 0) (hf : cells ≤ R.cells ∧ slots ≤ R.slots)
    (kk : ∀ (u : S) (H1 : Heap) (locs1 : List Loc), post u → HW D A H0 (Xs ++ ws1 u) H1 locs1 → W p l e R s m args below meth c H1 locs1 cells slots Q (F0 m (pc + 3) ls (.long (jI (rf u)) :: rest))) : W p l e R s m args below meth c H locs cells slots Q (F0 m pc ls (As.reverse ++ rest)) := by
  refine call_S X hL hC hR hw hn hls hrest hd (by rw [hc, hs]; exact hf) ?_
  rw [hc, hs]; exact kk
/-! the reference's own world: one object, eight arrays of ints -/
def up1 (f : Nat → Int) (k : Nat) (x : Int) : Nat → Int := fun j => if j = k then x else f j
def up2 (M : Nat → Nat → Int) (a k : Nat) (x : Int) : Nat → Nat → Int := fun b => if b = a then up1 (M a) k x else M b
theorem up1_s (f : Nat → Int) (k : Nat) (x : Int) : up1 f k x k = x := by simp [up1]
theorem up1_n {f : Nat → Int} {k j : Nat} (x : Int) (h : j ≠ k) : up1 f k x j = f j := by simp [up1, h]
theorem up2_s (M : Nat → Nat → Int) (a k : Nat) (x : Int) : up2 M a k x a k = x := by simp [up2, up1]
theorem up2_a (M : Nat → Nat → Int) (a k : Nat) (x : Int) : up2 M a k x a = up1 (M a) k x := by simp [up2]
theorem up2_n {M : Nat → Nat → Int} {a b k : Nat} (x : Int) (h : b ≠ a) : up2 M a k x b = M b := by simp [up2, h]
def tyL (cs : Nat → ClassId) : List (ClassId × FieldType) := [(cs 0, .int), (cs 1, .long), (cs 2, .object R_B), (cs 3, .object R_O), (cs 4, .object R_Q)]
def ar (c : ClassId) (n : Nat) (f : Nat → Int) : va_E := .inl (c, n, .inl (fun k => iI (f k)))
def szM (j : Nat) : Nat := match j with
  | 1 => 13200 | 2 => 120 | 3 => 120 | 4 => 224 | 5 => 224 | 6 => 4 | 7 => 3 | 8 => 12 | _ => 0
def oM (ad : Nat → Nat) (M : Nat → Nat → Int) : List Value := [.ref (ad 1), .ref (ad 2), .ref (ad 3), .ref (ad 4), .ref (ad 5), .int (iI (M 0 0)), .int (iI (M 0 1)), .int (iI (M 0 2)), .ref (ad 6), .ref (ad 7), .ref (ad 8)]
def wM (ad : Nat → Nat) (cs : Nat → ClassId) (M : Nat → Nat → Int) : va_W :=
  [(ad 0, .inr (5, oM ad M)), (ad 1, ar (cs 0) 13200 (M 1)), (ad 2, ar (cs 0) 120 (M 2)), (ad 3, ar (cs 0) 120 (M 3)), (ad 4, ar (cs 0) 224 (M 4)), (ad 5, ar (cs 0) 224 (M 5)), (ad 6, ar (cs 0) 4 (M 6)), (ad 7, ar (cs 0) 3 (M 7)), (ad 8, ar (cs 0) 12 (M 8))]
theorem ar_set (c : ClassId) (n : Nat) (f : Nat → Int) (i : Nat) (x : Int) : (.inl (c, n, .inl (upd (fun k => iI (f k)) i (iI x))) : va_E) = ar c n (up1 f i x) := by
  unfold ar
  congr 4
  funext k
  by_cases h : k = i <;> simp [upd, up1, h]
theorem wM_set {ad : Nat → Nat} {cs : Nat → ClassId} {M : Nat → Nat → Int} (j i : Nat) (x : Int) (h1 : 1 ≤ j) (h2 : j < 9) : (wM ad cs M).set j (ad j, ar (cs 0) (szM j) (up1 (M j) i x)) = wM ad cs (up2 M j i x) := by
  have : j = 1 ∨ j = 2 ∨ j = 3 ∨ j = 4 ∨ j = 5 ∨ j = 6 ∨ j = 7 ∨ j = 8 := by omega
  rcases this with h | h | h | h | h | h | h | h <;> subst h <;> simp [wM, oM, up2, szM]
theorem wM_at {ad : Nat → Nat} {cs : Nat → ClassId} {M : Nat → Nat → Int} (j : Nat) (h1 : 1 ≤ j) (h2 : j < 9) : (wM ad cs M)[j]? = some (ad j, ar (cs 0) (szM j) (M j)) := by
  have : j = 1 ∨ j = 2 ∨ j = 3 ∨ j = 4 ∨ j = 5 ∨ j = 6 ∨ j = 7 ∨ j = 8 := by omega
  rcases this with h | h | h | h | h | h | h | h <;> subst h <;> rfl
theorem rcv_M {ad : Nat → Nat} {cs : Nat → ClassId} {M : Nat → Nat → Int} : Rcv (wM ad cs M) (ad 0) R_M := ⟨0, 5, _, _, _, rfl, rfl⟩
theorem m_ald {ad : Nat → Nat} {cs : Nat → ClassId} {M : Nat → Nat → Int} {i : Int} (X : CX D (tyL cs) own cc nL p m c s args) (hw : HW D A H0 (wM ad cs M) H locs) (j k : Nat) (h1 : 1 ≤ j ∧ j < 9) (hi : i = (k : Int)) (hk : k < szM j) (v : Int) (hv : M j k = v) (hd : decode cc pc = .ok (.iaload, 1))
    (kk : W p l e R s m args below meth c H locs cells slots Q (F0 m (pc + 1) ls (.int (iI v) :: rest))) : W p l e R s m args below meth c H locs cells slots Q (F0 m pc ls (.int (iI i) :: .ref (ad j) :: rest)) := by
  have hs : szM j ≤ 13200 := by unfold szM; split <;> decide
  subst hi
  subst hv
  refine va_iald X.1.1 X.1.2.1 X.2 hw.1 j 0 (wM_at j h1.1 h1.2) rfl (iI_in (Int.natCast_nonneg k) (by omega) (by omega)) hd ?_
  rw [iI_cl (Int.natCast_nonneg k) (by omega), Int.toNat_natCast]
  exact kk
theorem m_ast {ad : Nat → Nat} {cs : Nat → ClassId} {M : Nat → Nat → Int} {i x : Int} (X : CX D (tyL cs) own cc nL p m c s args) (hw : HW D A H0 (wM ad cs M) H locs) (j k : Nat) (h1 : 1 ≤ j ∧ j < 9) (hi : i = (k : Int)) (hk : k < szM j) (hd : decode cc pc = .ok (.iastore, 1))
    (kk : ∀ (H1 : Heap) (locs1 : List Loc), HW D A H0 (wM ad cs (up2 M j k x)) H1 locs1 → W p l e R s m args below meth c H1 locs1 cells slots Q (F0 m (pc + 1) ls rest)) : W p l e R s m args below meth c H locs cells slots Q (F0 m pc ls (.int (iI x) :: .int (iI i) :: .ref (ad j) :: rest)) := by
  have hs : szM j ≤ 13200 := by unfold szM; split <;> decide
  subst hi
  refine va_iast X.1.1 X.1.2.1 X.2 hw.1 hw.2.1 hw.2.2.1 j 0 (wM_at j h1.1 h1.2) rfl (iI_in (Int.natCast_nonneg k) (by omega) (by omega)) hd (fun H1 locs1 hP hD hS => ?_)
  rw [iI_cl (Int.natCast_nonneg k) (by omega), Int.toNat_natCast, ar_set, wM_set j k x h1.1 h1.2] at hP hD
  exact kk H1 locs1 ⟨hP, hD, hS, hw.2.2.2⟩
theorem m_put {ad : Nat → Nat} {cs : Nat → ClassId} {M : Nat → Nat → Int} {x : Int} {idx : Nat} (X : CX D (tyL cs) R_M cc nL p m c s args) (hw : HW D A H0 (wM ad cs M) H locs) (k : Nat) (hk : k < 2) (hl : Cond.fieldLink R_M idx (F_M (k + 5)).1 (F_M (k + 5)).2.1 (F_M (k + 5)).2.2.1 ∈ TT) (hd : decode cc pc = .ok (.putfield idx, 3))
    (kk : ∀ (H1 : Heap) (locs1 : List Loc), HW D A H0 (wM ad cs (up2 M 0 k x)) H1 locs1 → W p l e R s m args below meth c H1 locs1 cells slots Q (F0 m (pc + 3) ls rest)) : W p l e R s m args below meth c H locs cells slots Q (F0 m pc ls (.int (iI x) :: .ref (ad 0) :: rest)) := by
  refine va_put (ty := .int) X.1.1 X.1.2.1 X.1.2.2.2.2 (C := R_M) (T := F_M) (N := 11) (ci := 5) (fun w hw => ?_) t_M t_M_ok n_M X.1.2.2.2.1 X.2 hw.1 hw.2.1 hw.2.2.1 0 (fs := oM ad M) rfl rfl (k + 5) (by omega) (X.1.2.2.2.2 _ hl) (fun _ h9 => h9) ?_ ?_ rfl rfl ?_ hd (fun H1 locs1 hP hD hS => ?_)
  · have : ∀ w ∈ u_ws R_M F_M 11, goodWord w = true := by decide +kernel
    exact tt_of (i_M w hw) (this w hw)
  · have : k = 0 ∨ k = 1 := by omega
    rcases this with h | h <;> subst h <;> rfl
  · have : k = 0 ∨ k = 1 := by omega
    rcases this with h | h <;> subst h <;> decide +kernel
  · show k + 5 < 11
    omega
  · have e : (wM ad cs M).set 0 (ad 0, .inr (5, (oM ad M).set (k + 5) (.int (iI x)))) = wM ad cs (up2 M 0 k x) := by
      have : k = 0 ∨ k = 1 := by omega
      rcases this with h | h <;> subst h <;> simp [wM, oM, up2, up1]
    rw [e] at hP hD
    exact kk H1 locs1 ⟨hP, hD, hS, hw.2.2.2⟩
theorem m_putz {ad : Nat → Nat} {cs : Nat → ClassId} {M : Nat → Nat → Int} {x : Int} {idx : Nat} (X : CX D (tyL cs) R_M cc nL p m c s args) (hw : HW D A H0 (wM ad cs M) H locs) (hx : x = 0 ∨ x = 1) (hl : Cond.fieldLink R_M idx (F_M 7).1 (F_M 7).2.1 (F_M 7).2.2.1 ∈ TT) (hd : decode cc pc = .ok (.putfield idx, 3))
    (kk : ∀ (H1 : Heap) (locs1 : List Loc), HW D A H0 (wM ad cs (up2 M 0 2 x)) H1 locs1 → W p l e R s m args below meth c H1 locs1 cells slots Q (F0 m (pc + 3) ls rest)) : W p l e R s m args below meth c H locs cells slots Q (F0 m pc ls (.int (iI x) :: .ref (ad 0) :: rest)) := by
  refine va_put (ty := .boolean) X.1.1 X.1.2.1 X.1.2.2.2.2 (C := R_M) (T := F_M) (N := 11) (ci := 5) (fun w hw => ?_) t_M t_M_ok n_M X.1.2.2.2.1 X.2 hw.1 hw.2.1 hw.2.2.1 0 (fs := oM ad M) rfl rfl 7 (by omega) (X.1.2.2.2.2 _ hl) (fun _ h9 => h9) rfl (by decide +kernel) ?_ ?_ (by show 7 < 11; omega) hd (fun H1 locs1 hP hD hS => ?_)
  · have : ∀ w ∈ u_ws R_M F_M 11, goodWord w = true := by decide +kernel
    exact tt_of (i_M w hw) (this w hw)
  · rcases hx with h | h <;> subst h <;> rfl
  · rcases hx with h | h <;> subst h <;> rfl
  · have e : (wM ad cs M).set 0 (ad 0, .inr (5, (oM ad M).set 7 (.int (iI x)))) = wM ad cs (up2 M 0 2 x) := by
      simp [wM, oM, up2, up1]
    rw [e] at hP hD
    exact kk H1 locs1 ⟨hP, hD, hS, hw.2.2.2⟩
theorem ig_M : ∀ w ∈ u_ws R_M F_M 11, w ∈ TT := fun w hw => by
  have : ∀ w ∈ u_ws R_M F_M 11, goodWord w = true := by decide +kernel
  exact tt_of (i_M w hw) (this w hw)
theorem m_get {ad : Nat → Nat} {cs : Nat → ClassId} {M : Nat → Nat → Int} {v : Value} {idx : Nat} (X : CX D (tyL cs) R_M cc nL p m c s args) (hw : HW D A H0 (wM ad cs M) H locs) (k : Nat) (hk : k < 11) (hv : (oM ad M)[k]? = some v) (hl : Cond.fieldLink R_M idx (F_M k).1 (F_M k).2.1 (F_M k).2.2.1 ∈ TT) (hd : decode cc pc = .ok (.getfield idx, 3))
    (kk : W p l e R s m args below meth c H locs cells slots Q (F0 m (pc + 3) ls (v :: rest))) : W p l e R s m args below meth c H locs cells slots Q (F0 m pc ls (.ref (ad 0) :: rest)) :=
  sy_get (q0 := 0) (ci := 5) X hw rfl rfl ig_M hk hl hv hd kk
end Cl
