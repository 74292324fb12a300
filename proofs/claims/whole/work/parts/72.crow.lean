/-! rows of the constructors -/
def ZN (U : State) : Prop := (va_AO R_B U ∧ va_AO R_O U ∧ va_AO R_Q U) ∧ va_Nw (.methodLinkNest R_E 31 y_Q_init "ExactEstimates") U ∧ va_Nw (.methodLinkNest R_E 36 y_B_init "ExactEstimates") U ∧ va_Nw (.methodLinkNest R_E 49 y_W_init "ExactEstimates") U ∧ va_Nw (.methodLinkNest R_E 63 y_O_init "ExactEstimates") U ∧ va_Nw (.methodLinkNest R_B 9 y_W_init "ExactEstimates") U
theorem ZN.warm {s U : State} (hW : s.WarmedH U.vm) (h : ZN s) : ZN U := ⟨⟨h.1.1.moved hW.alike, h.1.2.1.moved hW.alike, h.1.2.2.moved hW.alike⟩, h.2.1.warmM hW, h.2.2.1.warmM hW, h.2.2.2.1.warmM hW, h.2.2.2.2.1.warmM hW, h.2.2.2.2.2.warmM hW⟩
theorem ZN.same {u U : State} (h : u.vm = U.vm) (hz : ZN u) : ZN U := ⟨⟨hz.1.1.moved (by rw [h]; exact Vm.Alike.refl _), hz.1.2.1.moved (by rw [h]; exact Vm.Alike.refl _), hz.1.2.2.moved (by rw [h]; exact Vm.Alike.refl _)⟩, hz.2.1.same rfl h, hz.2.2.1.same rfl h, hz.2.2.2.1.same rfl h, hz.2.2.2.2.1.same rfl h, hz.2.2.2.2.2.same rfl h⟩
/-- a constructor's contract: as Ct, with what the tables say of nest mates and arrays -/
def CtZ {S : Type} (l : Launch) (D : va_G) (tys : List (ClassId × FieldType)) (y : MethodName) (bytes : ByteArray) (maxL : Nat) (rm : Room) (As : List Value) (ws0 : va_W) (post : S → Prop) (ws1 : S → va_W) : Prop :=
  ∀ sz : Nat, Met l y (.code y bytes maxL none :: TT) rm (va_Pc As (fun U => ZN U ∧ U.heap.size = sz ∧ va_P D classes ws0 U.heap ∧ va_K D classes tys U ∧ va_D (fun _ => True) ws0)) (QX D tys ws0 post (fun _ => none) ws1 sz) rm.cells rm.slots (va_A ws0 sz)
theorem CtZ.intro {S : Type} {l : Launch} {D : va_G} {tys : List (ClassId × FieldType)} {y : MethodName} {bytes : ByteArray} {maxL : Nat} {rm : Room} {As : List Value} {ws0 : va_W} {post : S → Prop} {ws1 : S → va_W}
    (hy : plainName y.cls = true) (hlen : (lg_sl As).length ≤ maxL)
    (body : ∀ (p : Program) (e : Env) (s : State) (m : MethodId) (below : List Frame) (meth : Method) (c : Code) (A : Nat → Prop) (args : Array Value) (Q : State → Prop) (H : Heap) (locs : List Loc), ZN s → CX D tys y.cls bytes maxL p m c s args → meth.name = y.name → HW D A s.heap ws0 H locs →
      (∀ (u : S) (H : Heap) (locs : List Loc) (pc : Nat) (ls : Array Slot), decode bytes pc = .ok (.return_, 1) → HW D A s.heap (ws1 u) H locs → post u → W p l e rm s m args below meth c H locs rm.cells rm.slots Q (F0 m pc ls [])) → ∀ ls : Array Slot, lv_has ls maxL (lv_args 0 As) →
      W p l e rm s m args below meth c H locs 0 0 Q (F0 m 0 ls [])) :
    CtZ l D tys y bytes maxL rm As ws0 post ws1 := by
  intro sz
  refine Met.ofW (cc := bytes) (maxL := maxL) (ret := none) hy rfl ?_
  intro p e s m args below meth c s₁ B hml hv
  obtain ⟨rfl, hz, hsz, hP, hK, hD0⟩ := hv
  have hts0 := atoms_spec (ws := Cond.code y bytes maxL none :: TT) B.pre
  have hown : s.vm.findClass y.cls = some m.cls := findClass_of_methodNamed B.named
  have hl := lv_entry As (n := maxL) hlen
  rw [lg_entry_eq]
  subst hsz
  have X : CX D tys y.cls bytes maxL p m c s As.toArray := ⟨⟨B.exec, B.bytes, hml, hown, fun w hw => hts0 w (List.mem_cons_of_mem _ hw)⟩, hK⟩
  exact body p e s m below meth c _ _ _ _ _ hz X (name_of_methodNamed B.named B.method).1 ⟨hP, hD0.self, va_S.rf, fun q h => Or.inr h⟩ (fun u H locs pc ls hd hw hp => ret_v X u B.returns B.notSynchronized hd hw hp rfl) _ hl
theorem HW.perm {D : va_G} {A : Nat → Prop} {H0 : Heap} {ws ws1 : va_W} {H : Heap} {locs : List Loc} (hw : HW D A H0 ws H locs) (hp : ws.Perm ws1) : HW D A H0 ws1 H locs := by
  obtain ⟨hP, hD, hS, hA⟩ := hw
  have hmem : ∀ q ∈ ws1, va_at D classes q H ∧ A q.1 := fun q hq => by
    obtain ⟨k, hk⟩ := List.getElem?_of_mem (hp.mem_iff.mpr hq)
    exact ⟨hP k q hk, hD.2 k q hk⟩
  have hnd : (ws.map Prod.fst).Nodup := by
    unfold List.Nodup
    rw [List.pairwise_iff_getElem]
    intro i j hi hj hij he
    rw [List.getElem_map, List.getElem_map] at he
    rw [List.length_map] at hi hj
    have := hD.1 i j _ _ (List.getElem?_eq_getElem hi) (List.getElem?_eq_getElem hj) he
    omega
  have hnd1 : (ws1.map Prod.fst).Nodup := ((hp.map Prod.fst).nodup_iff).mp hnd
  refine ⟨fun k q hq => (hmem q (List.mem_of_getElem? hq)).1, ⟨fun i j x y hx hy hxy => ?_, fun k q hq => (hmem q (List.mem_of_getElem? hq)).2⟩, hS, hA⟩
  unfold List.Nodup at hnd1
  rw [List.pairwise_iff_getElem] at hnd1
  obtain ⟨li, ex⟩ := List.getElem?_eq_some_iff.mp hx
  obtain ⟨lj, ey⟩ := List.getElem?_eq_some_iff.mp hy
  have hn : ∀ a b (ha : a < ws1.length) (hb : b < ws1.length), a < b → (ws1[a]).1 ≠ (ws1[b]).1 := fun a b ha hb hab => by
    have := hnd1 a b (by rw [List.length_map]; exact ha) (by rw [List.length_map]; exact hb) hab
    rw [List.getElem_map, List.getElem_map] at this
    exact this
  rcases Nat.lt_trichotomy i j with h | h | h
  · exact absurd (by rw [ex, ey, hxy]) (hn i j li lj h)
  · exact h
  · exact absurd (by rw [ex, ey, hxy]) (hn j i lj li h)
section CR
variable {p : Program} {l : Launch} {e : Env} {R : Room} {s : State} {m : MethodId} {args : Array Value} {below : List Frame} {meth : Method} {c : Code} {H : Heap} {locs : List Loc} {cells slots : Nat} {Q : State → Prop}
variable {D : va_G} {tys : List (ClassId × FieldType)} {own : String} {cc : ByteArray} {nL : Nat} {pc : Nat} {ls : Array Slot} {rest : List Value} {A : Nat → Prop} {H0 : Heap} {ws : va_W} {cs : Nat → ClassId}
theorem hw_obj {idx a : Nat} (X : CX D tys own cc nL p m c s args) (hl : Cond.methodLink own idx objectInit ∈ TT) (hls : ls.size = nL) (hf : 1 ≤ R.frames) (hlo : (rest.map fun v => v.category).sum + 12 ≤ R.locals) (hd : decode cc pc = .ok (.invokespecial idx, 3))
    (kk : W p l e R s m args below meth c H locs cells slots Q (F0 m (pc + 3) ls rest)) : W p l e R s m args below meth c H locs cells slots Q (F0 m pc ls (.ref a :: rest)) := by
  refine W.objInit X.1.1 X.1.2.1 X.1.2.2.2.1 (X.1.2.2.2.2 _ hl) (X.1.2.2.2.2 _ (tt_of k56 rfl)) (X.1.2.2.2.2 _ (tt_of k57 rfl)) rfl (by rw [X.1.2.2.1]; exact hls) rfl hd hf (by show 2 * 0 + _ + 12 ≤ _; omega) ?_
  exact kk
theorem hw_new {C : String} {T : u_T} {N ci idx : Nat} {fs : List Value} (X : CX D tys own cc nL p m c s args) (hw : HW D A H0 ws H locs) (hin : ∀ w ∈ u_ws C T N, w ∈ TT) (ty : Nat → FieldType) (hty : ∀ k, k < N → parseFieldDescriptor (T k).2.2.1 = some (ty k)) (hcl : Cond.classLink own idx C ∈ TT) (hinst : Cond.instantiable C N ∈ TT) (hini : Cond.initialized C ∈ TT) (hc : classes[ci]? = some (C, T, N)) (hfs : ∀ j, j < N → defaultValue (ty j) = vp_V fs j) (hcells : cells + 1 ≤ R.cells) (hslots : slots + N ≤ R.slots) (hd : decode cc pc = .ok (.new idx, 3))
    (kk : ∀ (q : Nat) (H1 : Heap), HW D A H0 (ws ++ [(q, .inr (ci, fs))]) H1 locs → W p l e R s m args below meth c H1 locs (cells + 1) (slots + N) Q (F0 m (pc + 3) ls (.ref q :: rest))) : W p l e R s m args below meth c H locs cells slots Q (F0 m pc ls rest) :=
  va_new X.1.1 X.1.2.1 X.1.2.2.2.2 hin ty hty X.1.2.2.2.1 (X.1.2.2.2.2 _ hcl) (X.1.2.2.2.2 _ hinst) (X.1.2.2.2.2 _ hini) X.2 hw.1 hw.2.1 hw.2.2.1 hw.2.2.2 hc hfs hcells hslots hd (fun q H1 hP hD hS => kk q H1 ⟨hP, hD, hS, hw.2.2.2⟩)
theorem hw_putF {C : String} {T : u_T} {N ci idx q0 a k : Nat} {fs : List Value} {v : Value} {ty : FieldType} (X : CX D tys own cc nL p m c s args) (hw : HW D A H0 ws H locs) (hin : ∀ w ∈ u_ws C T N, w ∈ TT) (ty0 : Nat → FieldType) (hty : ∀ k, k < N → parseFieldDescriptor (T k).2.2.1 = some (ty0 k)) (hnm : ∀ a, a < N → ∀ b, b < N → a ≠ b → (T a).2.1 ≠ (T b).2.1) (he : ws[q0]? = some (a, .inr (ci, fs))) (hc : classes[ci]? = some (C, T, N)) (hk : k < N) (hl : Cond.fieldLink own idx (T k).1 (T k).2.1 (T k).2.2.1 ∈ TT) (hfin : (T k).2.2.2 = true) (hin2 : meth.name = "<init>") (hdecl : (T k).1 = own) (hdt : parseFieldDescriptor (T k).2.2.1 = some ty) (hn : narrow ty v = v) (hfit : fits ty v = true) (hlen : k < fs.length) (hd : decode cc pc = .ok (.putfield idx, 3))
    (kk : ∀ (H1 : Heap) (locs1 : List Loc), HW D A H0 (ws.set q0 (a, .inr (ci, fs.set k v))) H1 locs1 → W p l e R s m args below meth c H1 locs1 cells slots Q (F0 m (pc + 3) ls rest)) : W p l e R s m args below meth c H locs cells slots Q (F0 m pc ls (v :: .ref a :: rest)) :=
  va_putF X.1.1 X.1.2.1 X.1.2.2.2.2 hin ty0 hty hnm X.1.2.2.2.1 X.2 hw.1 hw.2.1 hw.2.2.1 q0 he hc k hk (X.1.2.2.2.2 _ hl) (fun _ h9 => h9) hfin hin2 hdecl hdt hn hfit hlen hd (fun H1 locs1 hP hD hS => kk H1 locs1 ⟨hP, hD, hS, hw.2.2.2⟩)
theorem ra_inj {U : State} {c1 c2 : ClassId} {ty : FieldType} (h1 : va_RA U c1 ty) (h2 : va_RA U c2 ty) (hn : ∀ C, ty ≠ .object C) : c1 = c2 := by
  cases ty <;> first | exact absurd rfl (hn _) | exact Option.some.inj (h1.symm.trans h2)
theorem ra_injO {U : State} {c1 c2 : ClassId} {C : String} (h1 : va_RA U c1 (.object C)) (h2 : va_RA U c2 (.object C)) : c1 = c2 := by
  obtain ⟨_, _, -, -, -, a⟩ := h1
  obtain ⟨_, _, -, -, -, b⟩ := h2
  exact Option.some.inj (a.symm.trans b)
theorem hw_newi {n : Int} (X : CX D (tyL cs) own cc nL p m c s args) (hw : HW D A H0 ws H locs) (N : Nat) (hn : n = (N : Int)) (hN : N < 100000) (hcells : cells + 1 ≤ R.cells) (hslots : slots + N ≤ R.slots) (hd : decode cc pc = .ok (.newarray .int, 2))
    (kk : ∀ (q : Nat) (H1 : Heap), HW D A H0 (ws ++ [(q, ar (cs 0) N (fun _ => 0))]) H1 locs → W p l e R s m args below meth c H1 locs (cells + 1) (slots + N) Q (F0 m (pc + 2) ls (.ref q :: rest))) : W p l e R s m args below meth c H locs cells slots Q (F0 m pc ls (.int (iI n) :: rest)) := by
  subst hn
  refine va_newa (atype := .int) (N' := N) (ty := .int) (a0 := (N, .inl (fun _ => iI 0))) X.1.1 X.1.2.1 (X.1.2.2.2.2 _ (tt_of k98 rfl)) rfl X.2 hw.1 hw.2.1 hw.2.2.1 hw.2.2.2 (fun _ => rfl) (by rw [← iI_0, iI_lt ⟨by omega, by omega⟩ iI_R0]; omega) (by rw [iI_cl (by omega) (by omega), Int.toNat_natCast]) (by show N * 4 ≤ _; omega) hcells hslots hd (fun q cA H1 hK hP hD hS => ?_)
  have e : cA = cs 0 := ra_inj (hK.2 5 (cA, .int) rfl).2 (hK.2 0 (cs 0, .int) rfl).2 (fun _ h => by cases h)
  subst e
  exact kk q H1 ⟨hP, hD, hS, hw.2.2.2⟩
theorem hw_newj {n : Int} (X : CX D (tyL cs) own cc nL p m c s args) (hw : HW D A H0 ws H locs) (N : Nat) (hn : n = (N : Int)) (hN : N < 100000) (hcells : cells + 1 ≤ R.cells) (hslots : slots + N ≤ R.slots) (hd : decode cc pc = .ok (.newarray .long, 2))
    (kk : ∀ (q : Nat) (H1 : Heap), HW D A H0 (ws ++ [(q, aj (cs 1) N (fun _ => 0))]) H1 locs → W p l e R s m args below meth c H1 locs (cells + 1) (slots + N) Q (F0 m (pc + 2) ls (.ref q :: rest))) : W p l e R s m args below meth c H locs cells slots Q (F0 m pc ls (.int (iI n) :: rest)) := by
  subst hn
  refine va_newa (atype := .long) (N' := N) (ty := .long) (a0 := (N, .inr (.inl (fun _ => jI 0)))) X.1.1 X.1.2.1 (X.1.2.2.2.2 _ (tt_of k114 rfl)) rfl X.2 hw.1 hw.2.1 hw.2.2.1 hw.2.2.2 (fun _ => rfl) (by rw [← iI_0, iI_lt ⟨by omega, by omega⟩ iI_R0]; omega) (by rw [iI_cl (by omega) (by omega), Int.toNat_natCast]) (by show N * 8 ≤ _; omega) hcells hslots hd (fun q cA H1 hK hP hD hS => ?_)
  have e : cA = cs 1 := ra_inj (hK.2 5 (cA, .long) rfl).2 (hK.2 1 (cs 1, .long) rfl).2 (fun _ h => by cases h)
  subst e
  exact kk q H1 ⟨hP, hD, hS, hw.2.2.2⟩
theorem hw_newq {n : Int} {C : String} {idx : Nat} (X : CX D (tyL cs) own cc nL p m c s args) (hw : HW D A H0 ws H locs) (N t0 : Nat) (ht : (tyL cs)[t0]? = some (cs t0, .object C)) (ho : va_AO C s) (hcl : Cond.classLink own idx C ∈ TT) (hn : n = (N : Int)) (hN : N < 100000) (hcells : cells + 1 ≤ R.cells) (hslots : slots + N ≤ R.slots) (hd : decode cc pc = .ok (.anewarray idx, 3))
    (kk : ∀ (q : Nat) (H1 : Heap), HW D A H0 (ws ++ [(q, .inl (cs t0, N, .inr (.inr (.inr (.inr (fun _ => none))))))]) H1 locs → W p l e R s m args below meth c H1 locs (cells + 1) (slots + N) Q (F0 m (pc + 3) ls (.ref q :: rest))) : W p l e R s m args below meth c H locs cells slots Q (F0 m pc ls (.int (iI n) :: rest)) := by
  subst hn
  refine va_newq (N' := N) X.1.1 X.1.2.1 X.1.2.2.2.1 (X.1.2.2.2.2 _ hcl) ho X.2 hw.1 hw.2.1 hw.2.2.1 hw.2.2.2 (by rw [← iI_0, iI_lt ⟨by omega, by omega⟩ iI_R0]; omega) (by rw [iI_cl (by omega) (by omega), Int.toNat_natCast]) (by omega) hcells hslots hd (fun q cA H1 hK hP hD hS => ?_)
  have h5 : t0 < 5 := (List.getElem?_eq_some_iff.mp ht).1
  have e : cA = cs t0 := ra_injO (hK.2 5 (cA, .object C) rfl).2 (hK.2 t0 (cs t0, .object C) (by rw [List.getElem?_append_left (by exact h5)]; exact ht)).2
  subst e
  exact kk q H1 ⟨hP, hD, hS, hw.2.2.2⟩
theorem hw_astq {i : Int} {C : String} {T : u_T} {N ci q0 qk a v n t0 : Nat} {vs : List Value} {f : Nat → Option Nat} (X : CX D (tyL cs) own cc nL p m c s args) (hw : HW D A H0 ws H locs) (ha : ws[q0]? = some (a, .inl (cs t0, n, .inr (.inr (.inr (.inr f)))))) (ht : (tyL cs)[t0]? = some (cs t0, .object C)) (hv : ws[qk]? = some (v, .inr (ci, vs))) (hc : classes[ci]? = some (C, T, N)) (k : Nat) (hi : i = (k : Int)) (hk : k < n) (hn : n < 100000) (hd : decode cc pc = .ok (.aastore, 1))
    (kk : ∀ (H1 : Heap) (locs1 : List Loc), HW D A H0 (ws.set q0 (a, .inl (cs t0, n, .inr (.inr (.inr (.inr (va_up f k (some v)))))))) H1 locs1 → W p l e R s m args below meth c H1 locs1 cells slots Q (F0 m (pc + 1) ls rest)) : W p l e R s m args below meth c H locs cells slots Q (F0 m pc ls (.ref v :: .int (iI i) :: .ref a :: rest)) := by
  subst hi
  refine va_astq X.1.1 X.1.2.1 X.2 hw.1 hw.2.1 hw.2.2.1 q0 t0 qk ci (r := (C, T, N)) ha ht hv hc (iI_in (Int.natCast_nonneg k) (by omega) (by omega)) hd (fun H1 locs1 hP hD hS => ?_)
  rw [iI_cl (Int.natCast_nonneg k) (by omega), Int.toNat_natCast] at hP hD
  exact kk H1 locs1 ⟨hP, hD, hS, hw.2.2.2⟩
theorem blind_Z {As : List Value} {ws0 : va_W} {sz : Nat} : FrameBlind (va_Pc As (fun U => ZN U ∧ U.heap.size = sz ∧ va_P D classes ws0 U.heap ∧ va_K D classes tys U ∧ va_D (fun _ => True) ws0)) := fun a U g mk q => by
  obtain ⟨q0, qz, q1, qP, qK, qD⟩ := q
  exact ⟨q0, ZN.same (u := U) (U := U.calling g mk a) rfl qz, q1, qP, va_K.moved (u := U) (U := U.calling g mk a) (Vm.Alike.refl U.vm) qK, qD⟩
/-- a constructor of a nest mate -/
theorem call_IN {S : Type} {y : MethodName} {host : String} {bytes : ByteArray} {maxL idx b : Nat} {rm : Room} {ws0 Xs : va_W} {post : S → Prop} {ws1 : S → va_W}
    (X : CX D tys own cc nL p m c s args) (hz : ZN s) (hl : va_Nw (.methodLinkNest own idx y host) s) (hk : Cond.code y bytes maxL none ∈ TT) (hini : Cond.initialized y.cls ∈ TT) (hin : Cond.instanceMethod y ∈ TT) (hnm : y.name = "<init>") (hd4 : y.cls ≠ "java/lang/invoke/MethodHandle" ∧ y.cls ≠ "java/lang/invoke/VarHandle" ∧ (parseMethodDescriptor y.desc).map (fun d => d.parameters.length) = some 0) (hC : CtZ l D tys y bytes maxL rm [.ref b] ws0 post ws1) (hR : rm.frames + 1 ≤ R.frames ∧ 8 + (maxL + 11) + rm.locals ≤ R.locals)
    (hw : HW D A H0 (Xs ++ ws0) H locs) (hls : ls.size = nL) (hrest : (rest.map fun v => v.category).sum ≤ 8) (hd : decode cc pc = .ok (.invokespecial idx, 3)) (hf : cells + rm.cells ≤ R.cells ∧ slots + rm.slots ≤ R.slots)
    (kk : ∀ (u : S) (H1 : Heap) (locs1 : List Loc), post u → HW D A H0 (Xs ++ ws1 u) H1 locs1 → W p l e R s m args below meth c H1 locs1 (cells + rm.cells) (slots + rm.slots) Q (F0 m (pc + 3) ls rest)) : W p l e R s m args below meth c H locs cells slots Q (F0 m pc ls (.ref b :: rest)) := by
  obtain ⟨hfix, hK⟩ := X
  obtain ⟨hPc, hDc, hAc⟩ := hw.suf
  exact call_go (rv := fun _ => none) (va_runIN (As := []) (rest := rest) hfix (hC H.size) ⟨va_cnB 0 hfix.2.2.2.2 (tt_in hk) rfl rfl rfl hl (hfix.2.2.2.2 _ hini) hd4 hR, hnm, hfix.2.2.2.2 _ hin⟩ ⟨blind_Z, fun U hU hW => ⟨rfl, hz.warm hW, by rw [hU], by rw [hU]; exact hPc, va_K.moved hW.alike hK, hDc⟩⟩ rfl rfl hls rfl (lv_room hrest) hd hf) hw kk
theorem call_I {S : Type} {y : MethodName} {bytes : ByteArray} {maxL idx b : Nat} {rm : Room} {ws0 Xs : va_W} {post : S → Prop} {ws1 : S → va_W}
    (X : CX D tys own cc nL p m c s args) (hz : ZN s) (hl : Cond.methodLink own idx y ∈ TT) (hk : Cond.code y bytes maxL none ∈ TT) (hini : Cond.initialized y.cls ∈ TT) (hin : Cond.instanceMethod y ∈ TT) (hnm : y.name = "<init>") (hd4 : y.cls ≠ "java/lang/invoke/MethodHandle" ∧ y.cls ≠ "java/lang/invoke/VarHandle" ∧ (parseMethodDescriptor y.desc).map (fun d => d.parameters.length) = some 0) (hC : CtZ l D tys y bytes maxL rm [.ref b] ws0 post ws1) (hR : rm.frames + 1 ≤ R.frames ∧ 8 + (maxL + 11) + rm.locals ≤ R.locals)
    (hw : HW D A H0 (Xs ++ ws0) H locs) (hls : ls.size = nL) (hrest : (rest.map fun v => v.category).sum ≤ 8) (hd : decode cc pc = .ok (.invokespecial idx, 3)) (hf : cells + rm.cells ≤ R.cells ∧ slots + rm.slots ≤ R.slots)
    (kk : ∀ (u : S) (H1 : Heap) (locs1 : List Loc), post u → HW D A H0 (Xs ++ ws1 u) H1 locs1 → W p l e R s m args below meth c H1 locs1 (cells + rm.cells) (slots + rm.slots) Q (F0 m (pc + 3) ls rest)) : W p l e R s m args below meth c H locs cells slots Q (F0 m pc ls (.ref b :: rest)) := by
  obtain ⟨hfix, hK⟩ := X
  obtain ⟨hPc, hDc, hAc⟩ := hw.suf
  exact call_go (rv := fun _ => none) (va_runI (As := []) (rest := rest) hfix (hC H.size) (cwI 0 hfix.2.2.2.2 (tt_in hk) rfl rfl rfl (hfix.2.2.2.2 _ hini) (hfix.2.2.2.2 _ hl) (hfix.2.2.2.2 _ hin) hnm hd4 hR) ⟨blind_Z, fun U hU hW => ⟨rfl, hz.warm hW, by rw [hU], by rw [hU]; exact hPc, va_K.moved hW.alike hK, hDc⟩⟩ rfl rfl hls rfl (lv_room hrest) hd hf) hw kk
end CR
