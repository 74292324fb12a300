theorem Ct.introV {S : Type} {l : Launch} {D : va_G} {tys : List (ClassId × FieldType)} {y : MethodName} {bytes : ByteArray} {maxL : Nat} {rm : Room} {As : List Value} {ws0 : va_W} {post : S → Prop} {rv : S → Option Value} {ws1 : S → va_W}
    (hy : plainName y.cls = true) (hlen : (lg_sl As).length ≤ maxL) (hv : ∀ u, rv u = none)
    (body : ∀ (p : Program) (e : Env) (s : State) (m : MethodId) (below : List Frame) (meth : Method) (c : Code) (A : Nat → Prop) (args : Array Value) (Q : State → Prop) (H : Heap) (locs : List Loc), CX D tys y.cls bytes maxL p m c s args → meth.name = y.name → HW D A s.heap ws0 H locs →
      (∀ (u : S) (H : Heap) (locs : List Loc) (pc : Nat) (ls : Array Slot), decode bytes pc = .ok (.return_, 1) → HW D A s.heap (ws1 u) H locs → post u → W p l e rm s m args below meth c H locs rm.cells rm.slots Q (F0 m pc ls [])) → ∀ ls : Array Slot, lv_has ls maxL (lv_args 0 As) →
      W p l e rm s m args below meth c H locs 0 0 Q (F0 m 0 ls [])) :
    Ct l D tys y bytes maxL none rm As ws0 post rv ws1 := by
  refine Ct.intro hy hlen ?_
  intro p e s m below meth c X hr hlk hnm hw ls hl
  exact body p e s m below meth c _ _ _ _ _ X hnm hw (fun u H locs pc ls hd hw hp => ret_v X u hr hlk hd hw hp (hv u)) ls hl
theorem Ct.introI {S : Type} {l : Launch} {D : va_G} {tys : List (ClassId × FieldType)} {y : MethodName} {bytes : ByteArray} {maxL : Nat} {rm : Room} {As : List Value} {ws0 : va_W} {post : S → Prop} {rv : S → Option Value} {ws1 : S → va_W}
    (hy : plainName y.cls = true) (hlen : (lg_sl As).length ≤ maxL) 
    (body : ∀ (p : Program) (e : Env) (s : State) (m : MethodId) (below : List Frame) (meth : Method) (c : Code) (A : Nat → Prop) (args : Array Value) (Q : State → Prop) (H : Heap) (locs : List Loc), CX D tys y.cls bytes maxL p m c s args → meth.name = y.name → HW D A s.heap ws0 H locs →
      (∀ (u : S) (H : Heap) (locs : List Loc) (pc : Nat) (ls : Array Slot) (v : Int32), decode bytes pc = .ok (.ireturn, 1) → HW D A s.heap (ws1 u) H locs → post u → rv u = some (.int v) → W p l e rm s m args below meth c H locs rm.cells rm.slots Q (F0 m pc ls [.int v])) → ∀ ls : Array Slot, lv_has ls maxL (lv_args 0 As) →
      W p l e rm s m args below meth c H locs 0 0 Q (F0 m 0 ls [])) :
    Ct l D tys y bytes maxL (some .int) rm As ws0 post rv ws1 := by
  refine Ct.intro hy hlen ?_
  intro p e s m below meth c X hr hlk hnm hw ls hl
  exact body p e s m below meth c _ _ _ _ _ X hnm hw (fun u H locs pc ls v hd hw hp hv => ret_i X u hr hlk hd hw hp hv) ls hl
theorem Ct.introZ {S : Type} {l : Launch} {D : va_G} {tys : List (ClassId × FieldType)} {y : MethodName} {bytes : ByteArray} {maxL : Nat} {rm : Room} {As : List Value} {ws0 : va_W} {post : S → Prop} {rv : S → Option Value} {ws1 : S → va_W}
    (hy : plainName y.cls = true) (hlen : (lg_sl As).length ≤ maxL) 
    (body : ∀ (p : Program) (e : Env) (s : State) (m : MethodId) (below : List Frame) (meth : Method) (c : Code) (A : Nat → Prop) (args : Array Value) (Q : State → Prop) (H : Heap) (locs : List Loc), CX D tys y.cls bytes maxL p m c s args → meth.name = y.name → HW D A s.heap ws0 H locs →
      (∀ (u : S) (H : Heap) (locs : List Loc) (pc : Nat) (ls : Array Slot) (v : Int32), decode bytes pc = .ok (.ireturn, 1) → HW D A s.heap (ws1 u) H locs → post u → rv u = some (.int v) → narrow .boolean (.int v) = .int v → W p l e rm s m args below meth c H locs rm.cells rm.slots Q (F0 m pc ls [.int v])) → ∀ ls : Array Slot, lv_has ls maxL (lv_args 0 As) →
      W p l e rm s m args below meth c H locs 0 0 Q (F0 m 0 ls [])) :
    Ct l D tys y bytes maxL (some .boolean) rm As ws0 post rv ws1 := by
  refine Ct.intro hy hlen ?_
  intro p e s m below meth c X hr hlk hnm hw ls hl
  exact body p e s m below meth c _ _ _ _ _ X hnm hw (fun u H locs pc ls v hd hw hp hv hz => ret_z X u hz hr hlk hd hw hp hv) ls hl
theorem Ct.introJ {S : Type} {l : Launch} {D : va_G} {tys : List (ClassId × FieldType)} {y : MethodName} {bytes : ByteArray} {maxL : Nat} {rm : Room} {As : List Value} {ws0 : va_W} {post : S → Prop} {rv : S → Option Value} {ws1 : S → va_W}
    (hy : plainName y.cls = true) (hlen : (lg_sl As).length ≤ maxL) 
    (body : ∀ (p : Program) (e : Env) (s : State) (m : MethodId) (below : List Frame) (meth : Method) (c : Code) (A : Nat → Prop) (args : Array Value) (Q : State → Prop) (H : Heap) (locs : List Loc), CX D tys y.cls bytes maxL p m c s args → meth.name = y.name → HW D A s.heap ws0 H locs →
      (∀ (u : S) (H : Heap) (locs : List Loc) (pc : Nat) (ls : Array Slot) (v : Int64), decode bytes pc = .ok (.lreturn, 1) → HW D A s.heap (ws1 u) H locs → post u → rv u = some (.long v) → W p l e rm s m args below meth c H locs rm.cells rm.slots Q (F0 m pc ls [.long v])) → ∀ ls : Array Slot, lv_has ls maxL (lv_args 0 As) →
      W p l e rm s m args below meth c H locs 0 0 Q (F0 m 0 ls [])) :
    Ct l D tys y bytes maxL (some .long) rm As ws0 post rv ws1 := by
  refine Ct.intro hy hlen ?_
  intro p e s m below meth c X hr hlk hnm hw ls hl
  exact body p e s m below meth c _ _ _ _ _ X hnm hw (fun u H locs pc ls v hd hw hp hv => ret_j X u hr hlk hd hw hp hv) ls hl
theorem Ct.introA {S : Type} {l : Launch} {D : va_G} {tys : List (ClassId × FieldType)} {y : MethodName} {bytes : ByteArray} {maxL : Nat} {C : String} {rm : Room} {As : List Value} {ws0 : va_W} {post : S → Prop} {rv : S → Option Value} {ws1 : S → va_W}
    (hy : plainName y.cls = true) (hlen : (lg_sl As).length ≤ maxL) 
    (body : ∀ (p : Program) (e : Env) (s : State) (m : MethodId) (below : List Frame) (meth : Method) (c : Code) (A : Nat → Prop) (args : Array Value) (Q : State → Prop) (H : Heap) (locs : List Loc), CX D tys y.cls bytes maxL p m c s args → meth.name = y.name → HW D A s.heap ws0 H locs →
      (∀ (u : S) (H : Heap) (locs : List Loc) (pc : Nat) (ls : Array Slot) (v : Nat), decode bytes pc = .ok (.areturn, 1) → HW D A s.heap (ws1 u) H locs → post u → rv u = some (.ref v) → W p l e rm s m args below meth c H locs rm.cells rm.slots Q (F0 m pc ls [.ref v])) → ∀ ls : Array Slot, lv_has ls maxL (lv_args 0 As) →
      W p l e rm s m args below meth c H locs 0 0 Q (F0 m 0 ls [])) :
    Ct l D tys y bytes maxL (some (.object C)) rm As ws0 post rv ws1 := by
  refine Ct.intro hy hlen ?_
  intro p e s m below meth c X hr hlk hnm hw ls hl
  exact body p e s m below meth c _ _ _ _ _ X hnm hw (fun u H locs pc ls v hd hw hp hv => ret_a X u hr hlk hd hw hp hv) ls hl
section Tp
variable {p : Program} {l : Launch} {e : Env} {R : Room} {s : State} {m : MethodId} {args : Array Value} {below : List Frame} {meth : Method} {c : Code} {H : Heap} {locs : List Loc} {cells slots : Nat} {Q : State → Prop} {pc : Nat} {ls : Array Slot} {rest : List Value}
theorem W_topi {a b : Int} (h : a = b) (k : W p l e R s m args below meth c H locs cells slots Q (F0 m pc ls (.int (iI a) :: rest))) : W p l e R s m args below meth c H locs cells slots Q (F0 m pc ls (.int (iI b) :: rest)) := h ▸ k
theorem W_topl {a b : Int} (h : a = b) (k : W p l e R s m args below meth c H locs cells slots Q (F0 m pc ls (.long (jI a) :: rest))) : W p l e R s m args below meth c H locs cells slots Q (F0 m pc ls (.long (jI b) :: rest)) := h ▸ k
theorem W_topr {a b : Nat} (h : a = b) (k : W p l e R s m args below meth c H locs cells slots Q (F0 m pc ls (.ref a :: rest))) : W p l e R s m args below meth c H locs cells slots Q (F0 m pc ls (.ref b :: rest)) := h ▸ k
end Tp
