/-! the ambient facts of a walk, the world, the contract -/
def TT : List Cond := lw_tbl.filter goodWord
theorem tt_good : TT.all goodWord = true := by
  rw [List.all_eq_true]
  intro w hw
  exact (List.mem_filter.mp hw).2
theorem tt_of {w : Cond} (h : w ∈ lw_tbl) (g : goodWord w = true) : w ∈ TT := List.mem_filter.mpr ⟨h, g⟩
theorem tt_in {a : Cond} (ha : a ∈ TT) : GoodIn TT (a :: TT) := fun w hw => by
  have hm : w ∈ TT := by
    rcases List.mem_cons.mp hw with h | h
    · rw [h]; exact ha
    · exact h
  exact ⟨hm, good_of_word (List.all_eq_true.mp tt_good w hm)⟩
theorem tt_wsV {own C : String} {idx : Nat} {y : MethodName} {a : Cond} (k1 : Cond.methodLink own idx y ∈ TT) (k2 : Cond.instanceMethod y ∈ TT) (k3 : Cond.selects C y y ∈ TT) (k4 : Cond.initialized C ∈ TT) (k5 : a ∈ TT) : GoodIn TT (wsV own idx C y (a :: TT)) := fun w hw => by
  have hm : w ∈ TT := by
    simp only [wsV, List.cons_append, List.nil_append, List.mem_cons] at hw
    rcases hw with h | h | h | h | h | h
    · rw [h]; exact k1
    · rw [h]; exact k2
    · rw [h]; exact k3
    · rw [h]; exact k4
    · rw [h]; exact k5
    · exact h
  exact ⟨hm, good_of_word (List.all_eq_true.mp tt_good w hm)⟩
theorem tt_wsS {own : String} {idx : Nat} {y : MethodName} {a : Cond} (k1 : Cond.methodLink own idx y ∈ TT) (k2 : Cond.static y ∈ TT) (k4 : Cond.initialized own ∈ TT) (k5 : a ∈ TT) : GoodIn TT (wsS own idx y (a :: TT)) := fun w hw => by
  have hm : w ∈ TT := by
    simp only [wsS, List.cons_append, List.nil_append, List.mem_cons] at hw
    rcases hw with h | h | h | h | h
    · rw [h]; exact k1
    · rw [h]; exact k2
    · rw [h]; exact k4
    · rw [h]; exact k5
    · exact h
  exact ⟨hm, good_of_word (List.all_eq_true.mp tt_good w hm)⟩
def CX (D : va_G) (tys : List (ClassId × FieldType)) (own : String) (cc : ByteArray) (nL : Nat) (p : Program) (m : MethodId) (c : Code) (s : State) (args : Array Value) : Prop :=
  CallFix p m c cc nL s args TT own ∧ va_K D classes tys s
def HW (D : va_G) (A : Nat → Prop) (H0 : Heap) (ws : va_W) (H : Heap) (locs : List Loc) : Prop := va_P D classes ws H ∧ va_D A ws ∧ va_S A H0 H locs ∧ ∀ q, H0.size ≤ q → A q
def QX {S : Type} (D : va_G) (tys : List (ClassId × FieldType)) (ws0 : va_W) (post : S → Prop) (rv : S → Option Value) (ws1 : S → va_W) (sz : Nat) : Array Value → State → Outcome → State → Prop := fun _ st oc t =>
  (∃ u : S, oc = .returned (rv u) ∧ post u ∧ va_P D classes (ws1 u) t.heap ∧ va_K D classes tys t ∧ va_D (va_A ws0 sz) (ws1 u)) ∧ va_F (va_A ws0 sz) st t
/-- a method's contract: from the world ws0, with these arguments, it comes back with some u: post u, the answer rv u, the world ws1 u -/
def Ct {S : Type} (l : Launch) (D : va_G) (tys : List (ClassId × FieldType)) (y : MethodName) (bytes : ByteArray) (maxL : Nat) (ret : Option FieldType) (rm : Room) (As : List Value) (ws0 : va_W) (post : S → Prop) (rv : S → Option Value) (ws1 : S → va_W) : Prop :=
  ∀ sz : Nat, Met l y (.code y bytes maxL ret :: TT) rm (va_Pc As (fun U => U.heap.size = sz ∧ va_P D classes ws0 U.heap ∧ va_K D classes tys U ∧ va_D (fun _ => True) ws0)) (QX D tys ws0 post rv ws1 sz) rm.cells rm.slots (va_A ws0 sz)
theorem Ct.intro {S : Type} {l : Launch} {D : va_G} {tys : List (ClassId × FieldType)} {y : MethodName} {bytes : ByteArray} {maxL : Nat} {ret : Option FieldType} {rm : Room} {As : List Value} {ws0 : va_W} {post : S → Prop} {rv : S → Option Value} {ws1 : S → va_W}
    (hy : plainName y.cls = true) (hlen : (lg_sl As).length ≤ maxL)
    (body : ∀ (p : Program) (e : Env) (s : State) (m : MethodId) (below : List Frame) (meth : Method) (c : Code), CX D tys y.cls bytes maxL p m c s As.toArray → meth.sig.returnType = ret → meth.locks = false → meth.name = y.name → HW D (va_A ws0 s.heap.size) s.heap ws0 s.heap [] → ∀ ls : Array Slot, lv_has ls maxL (lv_args 0 As) →
      W p l e rm s m As.toArray below meth c s.heap [] 0 0 (MQ below (QX D tys ws0 post rv ws1 s.heap.size) As.toArray s rm.cells rm.slots (va_A ws0 s.heap.size)) (F0 m 0 ls [])) :
    Ct l D tys y bytes maxL ret rm As ws0 post rv ws1 := by
  intro sz
  refine Met.ofW (cc := bytes) (maxL := maxL) (ret := ret) hy rfl ?_
  intro p e s m args below meth c s₁ B hml hv
  obtain ⟨rfl, hsz, hP, hK, hD0⟩ := hv
  have hts0 := atoms_spec (ws := Cond.code y bytes maxL ret :: TT) B.pre
  have hown : s.vm.findClass y.cls = some m.cls := findClass_of_methodNamed B.named
  have hl := lv_entry As (n := maxL) hlen
  rw [lg_entry_eq]
  subst hsz
  exact body p e s m below meth c ⟨⟨B.exec, B.bytes, hml, hown, fun w hw => hts0 w (List.mem_cons_of_mem _ hw)⟩, hK⟩ B.returns B.notSynchronized (name_of_methodNamed B.named B.method).1 ⟨hP, hD0.self, va_S.rf, fun q h => Or.inr h⟩ _ hl
section Walk
variable {p : Program} {l : Launch} {e : Env} {R : Room} {s : State} {m : MethodId} {args : Array Value} {below : List Frame} {meth : Method} {c : Code} {H : Heap} {locs : List Loc} {cells slots : Nat} {Q : State → Prop}
variable {D : va_G} {tys : List (ClassId × FieldType)} {own : String} {cc : ByteArray} {nL : Nat} {pc : Nat} {ls : Array Slot} {rest : List Value} {A : Nat → Prop} {H0 : Heap}
theorem HW.keep {Xs ws0 ws1 : va_W} {H1 : Heap} {locs1 : List Loc} (hw : HW D A H0 (Xs ++ ws0) H locs) (hk : ∀ q : Nat, q < H.size → ¬ va_A ws0 H.size q → H1[q]? = H[q]?) (hP1 : va_P D classes ws1 H1) (hD1 : va_D (va_A ws0 H.size) ws1) (hS1 : va_S A H0 H1 locs1) : HW D A H0 (Xs ++ ws1) H1 locs1 := by
  obtain ⟨hP, hD, hS, hA⟩ := hw
  have hX : ∀ (k : Nat) (q : Nat × va_E), Xs[k]? = some q → (Xs ++ ws0)[k]? = some q := fun k q hq => by
    rw [List.getElem?_append_left (List.getElem?_eq_some_iff.mp hq).1]; exact hq
  have hW0 : ∀ (k : Nat) (q : Nat × va_E), ws0[k]? = some q → (Xs ++ ws0)[Xs.length + k]? = some q := fun k q hq => by
    rw [List.getElem?_append_right (Nat.le_add_right _ _), Nat.add_sub_cancel_left]; exact hq
  have apart : ∀ (k : Nat) (q : Nat × va_E), Xs[k]? = some q → q.1 < H.size ∧ ¬ va_A ws0 H.size q.1 := by
    intro k q hq
    have hl := (hP k q (hX k q hq)).lt
    refine ⟨hl, fun h => ?_⟩
    rcases h with ⟨k2, e, h⟩ | h
    · have := hD.1 k _ q (q.1, e) (hX k q hq) (hW0 k2 _ h) rfl
      have hlt := (List.getElem?_eq_some_iff.mp hq).1
      omega
    · omega
  refine ⟨va_P.app (fun k q hq => ?_) hP1, va_D.app ⟨fun i j x y hx hy h => hD.1 i j x y (hX i x hx) (hX j y hy) h, fun k q hq => hD.2 k q (hX k q hq)⟩ (hD1.weaken (fun k q _ h => ?_)) (fun i j x y hx hy hxy => ?_), hS1, hA⟩
  · obtain ⟨g1, g2⟩ := apart k q hq
    exact (hP k q (hX k q hq)).kept (hk q.1 g1 g2)
  · rcases h with ⟨k2, e, h⟩ | h
    · exact hD.2 _ (q.1, e) (hW0 k2 _ h)
    · exact hA q.1 (Nat.le_trans hS.1 h)
  · exact (apart i x hx).2 (by rw [hxy]; exact hD1.2 j y hy)
theorem HW.suf {Xs ws0 : va_W} (hw : HW D A H0 (Xs ++ ws0) H locs) : va_P D classes ws0 H ∧ va_D (fun _ => True) ws0 ∧ ∀ q, va_A ws0 H.size q → A q := by
  obtain ⟨hP, hD, hS, hA⟩ := hw
  have hW0 : ∀ (k : Nat) (q : Nat × va_E), ws0[k]? = some q → (Xs ++ ws0)[Xs.length + k]? = some q := fun k q hq => by
    rw [List.getElem?_append_right (Nat.le_add_right _ _), Nat.add_sub_cancel_left]; exact hq
  refine ⟨fun k q hq => hP _ q (hW0 k q hq), ⟨fun i j x y hx hy h => ?_, fun _ _ _ => trivial⟩, fun q h => ?_⟩
  · have := hD.1 _ _ x y (hW0 i x hx) (hW0 j y hy) h
    omega
  · rcases h with ⟨k2, e, h⟩ | h
    · exact hD.2 _ (q, e) (hW0 k2 _ h)
    · exact hA q (Nat.le_trans hS.1 h)
theorem call_go {S : Type} {ws0 Xs : va_W} {post : S → Prop} {rv : S → Option Value} {ws1 : S → va_W} {mc ms : Nat} {st0 : List Value} {a : Array Value}
    (hr : va_Run p l e R s m args below meth c H locs cells slots mc ms (F0 m pc ls st0) rest (QX D tys ws0 post rv ws1 H.size a) (va_A ws0 H.size)) (hw : HW D A H0 (Xs ++ ws0) H locs)
    (kk : ∀ (u : S) (H1 : Heap) (locs1 : List Loc), post u → HW D A H0 (Xs ++ ws1 u) H1 locs1 → W p l e R s m args below meth c H1 locs1 (cells + mc) (slots + ms) Q (F0 m (pc + 3) ls ((rv u).toList ++ rest))) : W p l e R s m args below meth c H locs cells slots Q (F0 m pc ls st0) := by
  intro T hT X
  obtain ⟨v, st₀, t, T', L, h0, X', hL, e1, e2, ⟨⟨u, hv, hp, hP1, hK1, hD1⟩, hz, hk⟩, st⟩ := hr T hT X
  obtain ⟨hPc, hDc, hAc⟩ := hw.suf
  cases hv
  rw [h0] at hz hk
  obtain ⟨hP, hD, hS, hA⟩ := hw
  have hS1 : va_S A H0 T'.heap (locs ++ L) := ⟨Nat.le_trans hS.1 (by rw [e1]; exact hz), fun q h1 h2 => by rw [e1, hk q (Nat.lt_of_lt_of_le h1 hS.1) (fun z => h2 (hAc q z))]; exact hS.2.1 q h1 h2, fun q hq => by
      rcases List.mem_append.mp hq with h | h
      · exact hS.2.2 q h
      · exact hAc _ (hL q h)⟩
  obtain ⟨t2, a1, b1⟩ := kk u T'.heap (locs ++ L) hp (HW.keep (H := H) ⟨hP, hD, hS, hA⟩ (fun q h1 h2 => by rw [e1]; exact hk q h1 h2) (by rw [e1]; exact hP1) hD1 hS1) T' rfl X'
  exact ⟨t2, st t2 a1, b1⟩
/-- what the tables say of a call -/
def LkV (own : String) (idx : Nat) (C : String) (y : MethodName) (bytes : ByteArray) (maxL : Nat) (ret : Option FieldType) (n : Nat) : Prop :=
  (Cond.methodLink own idx y ∈ TT ∧ Cond.instanceMethod y ∈ TT ∧ Cond.selects C y y ∈ TT ∧ Cond.initialized C ∈ TT ∧ Cond.code y bytes maxL ret ∈ TT) ∧ (y.cls = C ∧ y.cls ≠ "java/lang/invoke/MethodHandle" ∧ y.cls ≠ "java/lang/invoke/VarHandle" ∧ (parseMethodDescriptor y.desc).map (fun d => d.parameters.length) = some n)
def LkS (own : String) (idx : Nat) (y : MethodName) (bytes : ByteArray) (maxL : Nat) (ret : Option FieldType) (n : Nat) : Prop :=
  (Cond.methodLink own idx y ∈ TT ∧ Cond.static y ∈ TT ∧ Cond.initialized own ∈ TT ∧ Cond.code y bytes maxL ret ∈ TT) ∧ (y.cls = own ∧ y.cls ≠ "java/lang/invoke/MethodHandle" ∧ y.cls ≠ "java/lang/invoke/VarHandle" ∧ (parseMethodDescriptor y.desc).map (fun d => d.parameters.length) = some n)
/-- the receiver stands in the callee's world -/
def Rcv (ws0 : va_W) (b : Nat) (C : String) : Prop := ∃ (q0 ci : Nat) (fs : List Value) (T : u_T) (N : Nat), ws0[q0]? = some (b, .inr (ci, fs)) ∧ classes[ci]? = some (C, T, N)
theorem blind_Pc {As : List Value} {ws0 : va_W} {sz : Nat} : FrameBlind (va_Pc As (fun U => U.heap.size = sz ∧ va_P D classes ws0 U.heap ∧ va_K D classes tys U ∧ va_D (fun _ => True) ws0)) := fun a U g mk q => by
  obtain ⟨q0, q1, qP, qK, qD⟩ := q
  exact ⟨q0, q1, qP, va_K.moved (u := U) (U := U.calling g mk a) (Vm.Alike.refl U.vm) qK, qD⟩
theorem call_V {S : Type} {y : MethodName} {bytes : ByteArray} {maxL n idx b : Nat} {ret : Option FieldType} {rm : Room} {As : List Value} {ws0 Xs : va_W} {post : S → Prop} {rv : S → Option Value} {ws1 : S → va_W} {C : String}
    (X : CX D tys own cc nL p m c s args) (hL : LkV own idx C y bytes maxL ret n) (hC : Ct l D tys y bytes maxL ret rm (.ref b :: As) ws0 post rv ws1) (hR : rm.frames + 1 ≤ R.frames ∧ 8 + (maxL + 11) + rm.locals ≤ R.locals) (hb : Rcv ws0 b C)
    (hw : HW D A H0 (Xs ++ ws0) H locs) (hn : As.length = n) (hls : ls.size = nL) (hrest : (rest.map fun v => v.category).sum ≤ 8) (hd : decode cc pc = .ok (.invokevirtual idx, 3)) (hf : cells + rm.cells ≤ R.cells ∧ slots + rm.slots ≤ R.slots)
    (kk : ∀ (u : S) (H1 : Heap) (locs1 : List Loc), post u → HW D A H0 (Xs ++ ws1 u) H1 locs1 → W p l e R s m args below meth c H1 locs1 (cells + rm.cells) (slots + rm.slots) Q (F0 m (pc + 3) ls ((rv u).toList ++ rest))) : W p l e R s m args below meth c H locs cells slots Q (F0 m pc ls (As.reverse ++ .ref b :: rest)) := by
  obtain ⟨hfix, hK⟩ := X
  obtain ⟨hPc, hDc, hAc⟩ := hw.suf
  obtain ⟨⟨k1, k2, k3, k4, k5⟩, hd4⟩ := hL
  obtain ⟨q0, ci, fs, T, N, he, hc⟩ := hb
  refine call_go (va_runV (As := As) (rest := rest) hfix (hC H.size) (cwV n hfix.2.2.2.2 (tt_wsV k1 k2 k3 k4 k5) rfl rfl rfl hd4 hR) ⟨blind_Pc, va_recv hK hPc hc he, fun U hU hW => ⟨rfl, by rw [hU], by rw [hU]; exact hPc, va_K.moved hW.alike hK, hDc⟩⟩ rfl hn hls rfl (lv_room hrest) hd hf) hw kk
theorem call_S {S : Type} {y : MethodName} {bytes : ByteArray} {maxL n idx : Nat} {ret : Option FieldType} {rm : Room} {As : List Value} {ws0 Xs : va_W} {post : S → Prop} {rv : S → Option Value} {ws1 : S → va_W}
    (X : CX D tys own cc nL p m c s args) (hL : LkS own idx y bytes maxL ret n) (hC : Ct l D tys y bytes maxL ret rm As ws0 post rv ws1) (hR : rm.frames + 1 ≤ R.frames ∧ 8 + (maxL + 11) + rm.locals ≤ R.locals)
    (hw : HW D A H0 (Xs ++ ws0) H locs) (hn : As.length = n) (hls : ls.size = nL) (hrest : (rest.map fun v => v.category).sum ≤ 8) (hd : decode cc pc = .ok (.invokestatic idx, 3)) (hf : cells + rm.cells ≤ R.cells ∧ slots + rm.slots ≤ R.slots)
    (kk : ∀ (u : S) (H1 : Heap) (locs1 : List Loc), post u → HW D A H0 (Xs ++ ws1 u) H1 locs1 → W p l e R s m args below meth c H1 locs1 (cells + rm.cells) (slots + rm.slots) Q (F0 m (pc + 3) ls ((rv u).toList ++ rest))) : W p l e R s m args below meth c H locs cells slots Q (F0 m pc ls (As.reverse ++ rest)) := by
  obtain ⟨hfix, hK⟩ := X
  obtain ⟨hPc, hDc, hAc⟩ := hw.suf
  obtain ⟨⟨k1, k2, k4, k5⟩, hd4⟩ := hL
  refine call_go (va_runS (As := As) (rest := rest) hfix (hC H.size) (cwS n hfix.2.2.2.2 (tt_wsS k1 k2 k4 k5) rfl rfl rfl hd4 hR) ⟨blind_Pc, fun U hU hW => ⟨rfl, by rw [hU], by rw [hU]; exact hPc, va_K.moved hW.alike hK, hDc⟩⟩ rfl hn hls rfl (lv_room hrest) hd hf) hw kk
end Walk
