section Sy
variable {p : Program} {l : Launch} {e : Env} {R : Room} {s : State} {m : MethodId} {args : Array Value} {below : List Frame} {meth : Method} {c : Code} {H : Heap} {locs : List Loc} {cells slots : Nat} {Q : State → Prop}
variable {D : va_G} {tys : List (ClassId × FieldType)} {own : String} {cc : ByteArray} {nL : Nat} {pc : Nat} {ls : Array Slot} {rest : List Value} {A : Nat → Prop} {H0 : Heap}
theorem sy_iconst (X : CX D tys own cc nL p m c s args) {n : Int} (hd : decode cc pc = .ok (.iconst n, 1)) (k : W p l e R s m args below meth c H locs cells slots Q (F0 m (pc + 1) ls (.int (iI n) :: rest))) : W p l e R s m args below meth c H locs cells slots Q (F0 m pc ls (rest)) := lv_iconst X.1.1 X.1.2.1 hd rfl k
theorem sy_bipush (X : CX D tys own cc nL p m c s args) {n : Int} (hd : decode cc pc = .ok (.bipush n, 2)) (hv : (Int8.ofInt n).toInt32 = iI n) (k : W p l e R s m args below meth c H locs cells slots Q (F0 m (pc + 2) ls (.int (iI n) :: rest))) : W p l e R s m args below meth c H locs cells slots Q (F0 m pc ls (rest)) := lv_bipush X.1.1 X.1.2.1 hd hv k
theorem sy_sipush (X : CX D tys own cc nL p m c s args) {n : Int} (hd : decode cc pc = .ok (.sipush n, 3)) (hv : (Int16.ofInt n).toInt32 = iI n) (k : W p l e R s m args below meth c H locs cells slots Q (F0 m (pc + 3) ls (.int (iI n) :: rest))) : W p l e R s m args below meth c H locs cells slots Q (F0 m pc ls (rest)) := lv_sipush X.1.1 X.1.2.1 hd hv k
theorem sy_lconst (X : CX D tys own cc nL p m c s args) {n : Fin 2} {z : Int} (hd : decode cc pc = .ok (.lconst n, 1)) (hv : Int64.ofNat (n : Nat) = jI z) (k : W p l e R s m args below meth c H locs cells slots Q (F0 m (pc + 1) ls (.long (jI z) :: rest))) : W p l e R s m args below meth c H locs cells slots Q (F0 m pc ls (rest)) := lv_lconst X.1.1 X.1.2.1 hd hv k
theorem sy_ldc2 (X : CX D tys own cc nL p m c s args) {v : Int64} {idx : Nat} {z : Int} (hk : Cond.constantLong own idx v ∈ TT) (hd : decode cc pc = .ok (.ldc2_w idx, 3)) (hv : v = jI z) (k : W p l e R s m args below meth c H locs cells slots Q (F0 m (pc + 3) ls (.long (jI z) :: rest))) : W p l e R s m args below meth c H locs cells slots Q (F0 m pc ls (rest)) := lv_ldc2 X.1.1 X.1.2.1 X.1.2.2.2.1 (X.1.2.2.2.2 _ hk) hd (by rw [hv]; exact k)
theorem sy_ldc (X : CX D tys own cc nL p m c s args) {v : Int32} {idx : Nat} {z : Int} (hk : Cond.constant own idx v ∈ TT) (hd : decode cc pc = .ok (.ldc idx, 2)) (hv : v = iI z) (k : W p l e R s m args below meth c H locs cells slots Q (F0 m (pc + 2) ls (.int (iI z) :: rest))) : W p l e R s m args below meth c H locs cells slots Q (F0 m pc ls (rest)) := lv_ldc X.1.1 X.1.2.1 X.1.2.2.2.1 (X.1.2.2.2.2 _ hk) hd (by rw [hv]; exact k)
theorem sy_iload_n (X : CX D tys own cc nL p m c s args) {q : Fin 4} {lv : List (Nat × Value)} {x : Int} (hd : decode cc pc = .ok (.iload_n q, 1)) (hl : lv_has ls nL lv) (j : Nat) (hj : lv[j]? = some ((q : Nat), .int (iI x))) (k : W p l e R s m args below meth c H locs cells slots Q (F0 m (pc + 1) ls (.int (iI x) :: rest))) : W p l e R s m args below meth c H locs cells slots Q (F0 m pc ls (rest)) := lv_iload_n X.1.1 X.1.2.1 hd rfl (lv_at hl j hj) k
theorem sy_iload (X : CX D tys own cc nL p m c s args) {i : Nat} {lv : List (Nat × Value)} {x : Int} (hd : decode cc pc = .ok (.iload i, 2)) (hl : lv_has ls nL lv) (j : Nat) (hj : lv[j]? = some (i, .int (iI x))) (k : W p l e R s m args below meth c H locs cells slots Q (F0 m (pc + 2) ls (.int (iI x) :: rest))) : W p l e R s m args below meth c H locs cells slots Q (F0 m pc ls (rest)) := lv_iload X.1.1 X.1.2.1 hd (lv_at hl j hj) k
theorem sy_istore_n (X : CX D tys own cc nL p m c s args) {q : Fin 4} {i : Nat} {lv lv1 : List (Nat × Value)} {x : Int} (hd : decode cc pc = .ok (.istore_n q, 1)) (hl : lv_has ls nL lv) (hi : (q : Nat) = i) (hn : i < nL) (hf : (i, Value.int (iI x)) :: lv.filter (fun q => !(q.1 == i) && !(q.1 + 1 == i && q.2.category == 2)) = lv1) (kk : ∀ ls1 : Array Slot, lv_has ls1 nL lv1 → W p l e R s m args below meth c H locs cells slots Q (F0 m (pc + 1) ls1 (rest))) : W p l e R s m args below meth c H locs cells slots Q (F0 m pc ls (.int (iI x) :: rest)) := lv_istore_n X.1.1 X.1.2.1 hd hi hl hn hf kk
theorem sy_istore (X : CX D tys own cc nL p m c s args) {i : Nat} {lv lv1 : List (Nat × Value)} {x : Int} (hd : decode cc pc = .ok (.istore i, 2)) (hl : lv_has ls nL lv) (hn : i < nL) (hf : (i, Value.int (iI x)) :: lv.filter (fun q => !(q.1 == i) && !(q.1 + 1 == i && q.2.category == 2)) = lv1) (kk : ∀ ls1 : Array Slot, lv_has ls1 nL lv1 → W p l e R s m args below meth c H locs cells slots Q (F0 m (pc + 2) ls1 (rest))) : W p l e R s m args below meth c H locs cells slots Q (F0 m pc ls (.int (iI x) :: rest)) := lv_istore X.1.1 X.1.2.1 hd hl hn hf kk
theorem sy_lload_n (X : CX D tys own cc nL p m c s args) {q : Fin 4} {lv : List (Nat × Value)} {x : Int} (hd : decode cc pc = .ok (.lload_n q, 1)) (hl : lv_has ls nL lv) (j : Nat) (hj : lv[j]? = some ((q : Nat), .long (jI x))) (k : W p l e R s m args below meth c H locs cells slots Q (F0 m (pc + 1) ls (.long (jI x) :: rest))) : W p l e R s m args below meth c H locs cells slots Q (F0 m pc ls (rest)) := lv_lload_n X.1.1 X.1.2.1 hd rfl (lv_at hl j hj) k
theorem sy_lload (X : CX D tys own cc nL p m c s args) {i : Nat} {lv : List (Nat × Value)} {x : Int} (hd : decode cc pc = .ok (.lload i, 2)) (hl : lv_has ls nL lv) (j : Nat) (hj : lv[j]? = some (i, .long (jI x))) (k : W p l e R s m args below meth c H locs cells slots Q (F0 m (pc + 2) ls (.long (jI x) :: rest))) : W p l e R s m args below meth c H locs cells slots Q (F0 m pc ls (rest)) := lv_lload X.1.1 X.1.2.1 hd (lv_at hl j hj) k
theorem sy_lstore_n (X : CX D tys own cc nL p m c s args) {q : Fin 4} {i : Nat} {lv lv1 : List (Nat × Value)} {x : Int} (hd : decode cc pc = .ok (.lstore_n q, 1)) (hl : lv_has ls nL lv) (hi : (q : Nat) = i) (hn : i + 1 < nL) (hf : (i, Value.long (jI x)) :: lv.filter (fun q => !(q.1 == i) && (!(q.1 == i + 1) && !(q.1 + 1 == i && q.2.category == 2))) = lv1) (kk : ∀ ls1 : Array Slot, lv_has ls1 nL lv1 → W p l e R s m args below meth c H locs cells slots Q (F0 m (pc + 1) ls1 (rest))) : W p l e R s m args below meth c H locs cells slots Q (F0 m pc ls (.long (jI x) :: rest)) := lv_lstore_n X.1.1 X.1.2.1 hd hi hl hn hf kk
theorem sy_lstore (X : CX D tys own cc nL p m c s args) {i : Nat} {lv lv1 : List (Nat × Value)} {x : Int} (hd : decode cc pc = .ok (.lstore i, 2)) (hl : lv_has ls nL lv) (hn : i + 1 < nL) (hf : (i, Value.long (jI x)) :: lv.filter (fun q => !(q.1 == i) && (!(q.1 == i + 1) && !(q.1 + 1 == i && q.2.category == 2))) = lv1) (kk : ∀ ls1 : Array Slot, lv_has ls1 nL lv1 → W p l e R s m args below meth c H locs cells slots Q (F0 m (pc + 2) ls1 (rest))) : W p l e R s m args below meth c H locs cells slots Q (F0 m pc ls (.long (jI x) :: rest)) := lv_lstore X.1.1 X.1.2.1 hd hl hn hf kk
theorem sy_aload_n (X : CX D tys own cc nL p m c s args) {q : Fin 4} {lv : List (Nat × Value)} {x : Nat} (hd : decode cc pc = .ok (.aload_n q, 1)) (hl : lv_has ls nL lv) (j : Nat) (hj : lv[j]? = some ((q : Nat), .ref x)) (k : W p l e R s m args below meth c H locs cells slots Q (F0 m (pc + 1) ls (.ref x :: rest))) : W p l e R s m args below meth c H locs cells slots Q (F0 m pc ls (rest)) := lv_aload_n X.1.1 X.1.2.1 hd rfl (lv_at hl j hj) k
theorem sy_aload (X : CX D tys own cc nL p m c s args) {i : Nat} {lv : List (Nat × Value)} {x : Nat} (hd : decode cc pc = .ok (.aload i, 2)) (hl : lv_has ls nL lv) (j : Nat) (hj : lv[j]? = some (i, .ref x)) (k : W p l e R s m args below meth c H locs cells slots Q (F0 m (pc + 2) ls (.ref x :: rest))) : W p l e R s m args below meth c H locs cells slots Q (F0 m pc ls (rest)) := lv_aload X.1.1 X.1.2.1 hd (lv_at hl j hj) k
theorem sy_astore_n (X : CX D tys own cc nL p m c s args) {q : Fin 4} {i : Nat} {lv lv1 : List (Nat × Value)} {x : Nat} (hd : decode cc pc = .ok (.astore_n q, 1)) (hl : lv_has ls nL lv) (hi : (q : Nat) = i) (hn : i < nL) (hf : (i, Value.ref x) :: lv.filter (fun q => !(q.1 == i) && !(q.1 + 1 == i && q.2.category == 2)) = lv1) (kk : ∀ ls1 : Array Slot, lv_has ls1 nL lv1 → W p l e R s m args below meth c H locs cells slots Q (F0 m (pc + 1) ls1 (rest))) : W p l e R s m args below meth c H locs cells slots Q (F0 m pc ls (.ref x :: rest)) := lv_astore_n X.1.1 X.1.2.1 hd hi hl hn hf kk
theorem sy_astore (X : CX D tys own cc nL p m c s args) {i : Nat} {lv lv1 : List (Nat × Value)} {x : Nat} (hd : decode cc pc = .ok (.astore i, 2)) (hl : lv_has ls nL lv) (hn : i < nL) (hf : (i, Value.ref x) :: lv.filter (fun q => !(q.1 == i) && !(q.1 + 1 == i && q.2.category == 2)) = lv1) (kk : ∀ ls1 : Array Slot, lv_has ls1 nL lv1 → W p l e R s m args below meth c H locs cells slots Q (F0 m (pc + 2) ls1 (rest))) : W p l e R s m args below meth c H locs cells slots Q (F0 m pc ls (.ref x :: rest)) := lv_astore X.1.1 X.1.2.1 hd hl hn hf kk
theorem sy_iinc (X : CX D tys own cc nL p m c s args) {i : Nat} {n x y : Int} {lv lv1 : List (Nat × Value)} (hd : decode cc pc = .ok (.iinc i n, 3)) (hl : lv_has ls nL lv) (j : Nat) (hj : lv[j]? = some (i, .int (iI x))) (hy : x + n = y) (hn : i < nL) (hf : (i, Value.int (iI y)) :: lv.filter (fun q => !(q.1 == i) && !(q.1 + 1 == i && q.2.category == 2)) = lv1) (kk : ∀ ls1 : Array Slot, lv_has ls1 nL lv1 → W p l e R s m args below meth c H locs cells slots Q (F0 m (pc + 3) ls1 (rest))) : W p l e R s m args below meth c H locs cells slots Q (F0 m pc ls (rest)) := lv_iinc X.1.1 X.1.2.1 hd hl hj (by rw [← hy]; exact iI_add x n) hn hf kk
theorem sy_iadd (X : CX D tys own cc nL p m c s args) {a b : Int} (hd : decode cc pc = .ok (.iadd, 1)) (k : W p l e R s m args below meth c H locs cells slots Q (F0 m (pc + 1) ls (.int (iI (a + b)) :: rest))) : W p l e R s m args below meth c H locs cells slots Q (F0 m pc ls (.int (iI b) :: .int (iI a) :: rest)) := lv_iadd X.1.1 X.1.2.1 hd (by rw [iI_add]; exact k)
theorem sy_isub (X : CX D tys own cc nL p m c s args) {a b : Int} (hd : decode cc pc = .ok (.isub, 1)) (k : W p l e R s m args below meth c H locs cells slots Q (F0 m (pc + 1) ls (.int (iI (a - b)) :: rest))) : W p l e R s m args below meth c H locs cells slots Q (F0 m pc ls (.int (iI b) :: .int (iI a) :: rest)) := lv_isub X.1.1 X.1.2.1 hd (by rw [iI_sub]; exact k)
theorem sy_imul (X : CX D tys own cc nL p m c s args) {a b : Int} (hd : decode cc pc = .ok (.imul, 1)) (k : W p l e R s m args below meth c H locs cells slots Q (F0 m (pc + 1) ls (.int (iI (a * b)) :: rest))) : W p l e R s m args below meth c H locs cells slots Q (F0 m pc ls (.int (iI b) :: .int (iI a) :: rest)) := lv_imul X.1.1 X.1.2.1 hd (by rw [iI_mul]; exact k)
theorem sy_ladd (X : CX D tys own cc nL p m c s args) {a b : Int} (hd : decode cc pc = .ok (.ladd, 1)) (k : W p l e R s m args below meth c H locs cells slots Q (F0 m (pc + 1) ls (.long (jI (a + b)) :: rest))) : W p l e R s m args below meth c H locs cells slots Q (F0 m pc ls (.long (jI b) :: .long (jI a) :: rest)) := lv_ladd X.1.1 X.1.2.1 hd (by rw [jI_add]; exact k)
theorem sy_lsub (X : CX D tys own cc nL p m c s args) {a b : Int} (hd : decode cc pc = .ok (.lsub, 1)) (k : W p l e R s m args below meth c H locs cells slots Q (F0 m (pc + 1) ls (.long (jI (a - b)) :: rest))) : W p l e R s m args below meth c H locs cells slots Q (F0 m pc ls (.long (jI b) :: .long (jI a) :: rest)) := lv_lsub X.1.1 X.1.2.1 hd (by rw [jI_sub]; exact k)
theorem sy_lmul (X : CX D tys own cc nL p m c s args) {a b : Int} (hd : decode cc pc = .ok (.lmul, 1)) (k : W p l e R s m args below meth c H locs cells slots Q (F0 m (pc + 1) ls (.long (jI (a * b)) :: rest))) : W p l e R s m args below meth c H locs cells slots Q (F0 m pc ls (.long (jI b) :: .long (jI a) :: rest)) := lv_lmul X.1.1 X.1.2.1 hd (by rw [jI_mul]; exact k)
theorem sy_ineg (X : CX D tys own cc nL p m c s args) {a : Int} (hd : decode cc pc = .ok (.ineg, 1)) (k : W p l e R s m args below meth c H locs cells slots Q (F0 m (pc + 1) ls (.int (iI (-a)) :: rest))) : W p l e R s m args below meth c H locs cells slots Q (F0 m pc ls (.int (iI a) :: rest)) := lv_ineg X.1.1 X.1.2.1 hd (by rw [iI_neg]; exact k)
theorem sy_lneg (X : CX D tys own cc nL p m c s args) {a : Int} (hd : decode cc pc = .ok (.lneg, 1)) (k : W p l e R s m args below meth c H locs cells slots Q (F0 m (pc + 1) ls (.long (jI (-a)) :: rest))) : W p l e R s m args below meth c H locs cells slots Q (F0 m pc ls (.long (jI a) :: rest)) := lv_lneg X.1.1 X.1.2.1 hd (by rw [jI_neg]; exact k)
theorem sy_i2l (X : CX D tys own cc nL p m c s args) {a : Int} (hd : decode cc pc = .ok (.i2l, 1)) (hr : R31 a) (k : W p l e R s m args below meth c H locs cells slots Q (F0 m (pc + 1) ls (.long (jI a) :: rest))) : W p l e R s m args below meth c H locs cells slots Q (F0 m pc ls (.int (iI a) :: rest)) := lv_i2l X.1.1 X.1.2.1 hd (i2j hr) k
theorem sy_l2i (X : CX D tys own cc nL p m c s args) {a : Int} (hd : decode cc pc = .ok (.l2i, 1)) (k : W p l e R s m args below meth c H locs cells slots Q (F0 m (pc + 1) ls (.int (iI a) :: rest))) : W p l e R s m args below meth c H locs cells slots Q (F0 m pc ls (.long (jI a) :: rest)) := lv_l2i X.1.1 X.1.2.1 hd (j2i a) k
theorem sy_land (X : CX D tys own cc nL p m c s args) {a b : Int} (n : Nat) (md : Int) (hd : decode cc pc = .ok (.land, 1)) (hn : n < 64) (hb : b = (2 : Int) ^ n - 1) (hm : (2 : Int) ^ n = md) (k : W p l e R s m args below meth c H locs cells slots Q (F0 m (pc + 1) ls (.long (jI (a % md)) :: rest))) : W p l e R s m args below meth c H locs cells slots Q (F0 m pc ls (.long (jI b) :: .long (jI a) :: rest)) := lv_land X.1.1 X.1.2.1 hd (by rw [hb, jI_and a n hn, hm]; exact k)
theorem sy_iand (X : CX D tys own cc nL p m c s args) {a b : Int} (n : Nat) (md : Int) (hd : decode cc pc = .ok (.iand, 1)) (hn : n < 32) (hb : b = (2 : Int) ^ n - 1) (hm : (2 : Int) ^ n = md) (k : W p l e R s m args below meth c H locs cells slots Q (F0 m (pc + 1) ls (.int (iI (a % md)) :: rest))) : W p l e R s m args below meth c H locs cells slots Q (F0 m pc ls (.int (iI b) :: .int (iI a) :: rest)) := lv_iand X.1.1 X.1.2.1 hd (by rw [hb, iI_and a n hn, hm]; exact k)
theorem sy_lshr (X : CX D tys own cc nL p m c s args) {a b : Int} (dv : Int) (hd : decode cc pc = .ok (.lshr, 1)) (hr : R63 a) (h0 : 0 ≤ b) (h1 : b < 64) (hm : (2 : Int) ^ b.toNat = dv) (k : W p l e R s m args below meth c H locs cells slots Q (F0 m (pc + 1) ls (.long (jI (a / dv)) :: rest))) : W p l e R s m args below meth c H locs cells slots Q (F0 m pc ls (.int (iI b) :: .long (jI a) :: rest)) := lv_lshr X.1.1 X.1.2.1 hd (jI_shr hr h0 h1) (by rw [hm]; exact k)
theorem sy_ishr (X : CX D tys own cc nL p m c s args) {a b : Int} (dv : Int) (hd : decode cc pc = .ok (.ishr, 1)) (hr : R31 a) (h0 : 0 ≤ b) (h1 : b < 32) (hm : (2 : Int) ^ b.toNat = dv) (k : W p l e R s m args below meth c H locs cells slots Q (F0 m (pc + 1) ls (.int (iI (a / dv)) :: rest))) : W p l e R s m args below meth c H locs cells slots Q (F0 m pc ls (.int (iI b) :: .int (iI a) :: rest)) := lv_ishr X.1.1 X.1.2.1 hd (by rw [iI_shr hr h0 h1, hm]; exact k)
theorem sy_goto (X : CX D tys own cc nL p m c s args) {off : Int} {tgt : Nat} (hd : decode cc pc = .ok (.goto off, 3)) (ht : (pc : Int) + off = (tgt : Int)) (k : W p l e R s m args below meth c H locs cells slots Q (F0 m tgt ls (rest))) : W p l e R s m args below meth c H locs cells slots Q (F0 m pc ls (rest)) := lv_goto X.1.1 X.1.2.1 hd ht k
theorem sy_dup (X : CX D tys own cc nL p m c s args) {va : Value} (hd : decode cc pc = .ok (.dup, 1)) (hva : va.category = 1) (k : W p l e R s m args below meth c H locs cells slots Q (F0 m (pc + 1) ls (va :: va :: rest))) : W p l e R s m args below meth c H locs cells slots Q (F0 m pc ls (va :: rest)) := lv_dup X.1.1 X.1.2.1 hd hva k
theorem sy_dup2 (X : CX D tys own cc nL p m c s args) {va vb : Value} (hd : decode cc pc = .ok (.dup2, 1)) (hva : va.category = 1) (hvb : vb.category = 1) (k : W p l e R s m args below meth c H locs cells slots Q (F0 m (pc + 1) ls (va :: vb :: va :: vb :: rest))) : W p l e R s m args below meth c H locs cells slots Q (F0 m pc ls (va :: vb :: rest)) := lv_dup2_11 X.1.1 X.1.2.1 hd hva hvb k
theorem sy_icmp_eq (X : CX D tys own cc nL p m c s args) {a b : Int} {off : Int} {tgt : Nat} (hd : decode cc pc = .ok (.if_icmp .eq off, 3)) (ht : (pc : Int) + off = (tgt : Int)) (ha : R31 a) (hb : R31 b) (kt : a = b → W p l e R s m args below meth c H locs cells slots Q (F0 m tgt ls (rest))) (kf : ¬ (a = b) → W p l e R s m args below meth c H locs cells slots Q (F0 m (pc + 3) ls (rest))) : W p l e R s m args below meth c H locs cells slots Q (F0 m pc ls (.int (iI b) :: .int (iI a) :: rest)) := lv_icmp_eq X.1.1 X.1.2.1 hd ht (fun h => kt ((iI_eq ha hb).mp h)) (fun h => kf (fun g => h ((iI_eq ha hb).mpr g)))
theorem sy_if_eq (X : CX D tys own cc nL p m c s args) {a : Int} {off : Int} {tgt : Nat} (hd : decode cc pc = .ok (.ifCond .eq off, 3)) (ht : (pc : Int) + off = (tgt : Int)) (ha : R31 a) (kt : a = 0 → W p l e R s m args below meth c H locs cells slots Q (F0 m tgt ls (rest))) (kf : ¬ (a = 0) → W p l e R s m args below meth c H locs cells slots Q (F0 m (pc + 3) ls (rest))) : W p l e R s m args below meth c H locs cells slots Q (F0 m pc ls (.int (iI a) :: rest)) := lv_if_eq X.1.1 X.1.2.1 hd ht (fun h => kt ((iI_eq ha iI_R0).mp h)) (fun h => kf (fun g => h ((iI_eq ha iI_R0).mpr g)))
theorem sy_icmp_ne (X : CX D tys own cc nL p m c s args) {a b : Int} {off : Int} {tgt : Nat} (hd : decode cc pc = .ok (.if_icmp .ne off, 3)) (ht : (pc : Int) + off = (tgt : Int)) (ha : R31 a) (hb : R31 b) (kt : a ≠ b → W p l e R s m args below meth c H locs cells slots Q (F0 m tgt ls (rest))) (kf : a = b → W p l e R s m args below meth c H locs cells slots Q (F0 m (pc + 3) ls (rest))) : W p l e R s m args below meth c H locs cells slots Q (F0 m pc ls (.int (iI b) :: .int (iI a) :: rest)) := lv_icmp_ne X.1.1 X.1.2.1 hd ht (fun h => kt (fun g => h ((iI_eq ha hb).mpr g))) (fun h => kf ((iI_eq ha hb).mp h))
theorem sy_if_ne (X : CX D tys own cc nL p m c s args) {a : Int} {off : Int} {tgt : Nat} (hd : decode cc pc = .ok (.ifCond .ne off, 3)) (ht : (pc : Int) + off = (tgt : Int)) (ha : R31 a) (kt : a ≠ 0 → W p l e R s m args below meth c H locs cells slots Q (F0 m tgt ls (rest))) (kf : a = 0 → W p l e R s m args below meth c H locs cells slots Q (F0 m (pc + 3) ls (rest))) : W p l e R s m args below meth c H locs cells slots Q (F0 m pc ls (.int (iI a) :: rest)) := lv_if_ne X.1.1 X.1.2.1 hd ht (fun h => kt (fun g => h ((iI_eq ha iI_R0).mpr g))) (fun h => kf ((iI_eq ha iI_R0).mp h))
theorem sy_icmp_lt (X : CX D tys own cc nL p m c s args) {a b : Int} {off : Int} {tgt : Nat} (hd : decode cc pc = .ok (.if_icmp .lt off, 3)) (ht : (pc : Int) + off = (tgt : Int)) (ha : R31 a) (hb : R31 b) (kt : a < b → W p l e R s m args below meth c H locs cells slots Q (F0 m tgt ls (rest))) (kf : ¬ (a < b) → W p l e R s m args below meth c H locs cells slots Q (F0 m (pc + 3) ls (rest))) : W p l e R s m args below meth c H locs cells slots Q (F0 m pc ls (.int (iI b) :: .int (iI a) :: rest)) := lv_icmp_lt X.1.1 X.1.2.1 hd ht (fun h => kt ((iI_lt ha hb).mp h)) (fun h => kf (fun g => h ((iI_lt ha hb).mpr g)))
theorem sy_if_lt (X : CX D tys own cc nL p m c s args) {a : Int} {off : Int} {tgt : Nat} (hd : decode cc pc = .ok (.ifCond .lt off, 3)) (ht : (pc : Int) + off = (tgt : Int)) (ha : R31 a) (kt : a < 0 → W p l e R s m args below meth c H locs cells slots Q (F0 m tgt ls (rest))) (kf : ¬ (a < 0) → W p l e R s m args below meth c H locs cells slots Q (F0 m (pc + 3) ls (rest))) : W p l e R s m args below meth c H locs cells slots Q (F0 m pc ls (.int (iI a) :: rest)) := lv_if_lt X.1.1 X.1.2.1 hd ht (fun h => kt ((iI_lt ha iI_R0).mp h)) (fun h => kf (fun g => h ((iI_lt ha iI_R0).mpr g)))
theorem sy_icmp_ge (X : CX D tys own cc nL p m c s args) {a b : Int} {off : Int} {tgt : Nat} (hd : decode cc pc = .ok (.if_icmp .ge off, 3)) (ht : (pc : Int) + off = (tgt : Int)) (ha : R31 a) (hb : R31 b) (kt : b ≤ a → W p l e R s m args below meth c H locs cells slots Q (F0 m tgt ls (rest))) (kf : ¬ (b ≤ a) → W p l e R s m args below meth c H locs cells slots Q (F0 m (pc + 3) ls (rest))) : W p l e R s m args below meth c H locs cells slots Q (F0 m pc ls (.int (iI b) :: .int (iI a) :: rest)) := lv_icmp_ge X.1.1 X.1.2.1 hd ht (fun h => kt ((iI_le hb ha).mp h)) (fun h => kf (fun g => h ((iI_le hb ha).mpr g)))
theorem sy_if_ge (X : CX D tys own cc nL p m c s args) {a : Int} {off : Int} {tgt : Nat} (hd : decode cc pc = .ok (.ifCond .ge off, 3)) (ht : (pc : Int) + off = (tgt : Int)) (ha : R31 a) (kt : 0 ≤ a → W p l e R s m args below meth c H locs cells slots Q (F0 m tgt ls (rest))) (kf : ¬ (0 ≤ a) → W p l e R s m args below meth c H locs cells slots Q (F0 m (pc + 3) ls (rest))) : W p l e R s m args below meth c H locs cells slots Q (F0 m pc ls (.int (iI a) :: rest)) := lv_if_ge X.1.1 X.1.2.1 hd ht (fun h => kt ((iI_le iI_R0 ha).mp h)) (fun h => kf (fun g => h ((iI_le iI_R0 ha).mpr g)))
theorem sy_icmp_gt (X : CX D tys own cc nL p m c s args) {a b : Int} {off : Int} {tgt : Nat} (hd : decode cc pc = .ok (.if_icmp .gt off, 3)) (ht : (pc : Int) + off = (tgt : Int)) (ha : R31 a) (hb : R31 b) (kt : b < a → W p l e R s m args below meth c H locs cells slots Q (F0 m tgt ls (rest))) (kf : ¬ (b < a) → W p l e R s m args below meth c H locs cells slots Q (F0 m (pc + 3) ls (rest))) : W p l e R s m args below meth c H locs cells slots Q (F0 m pc ls (.int (iI b) :: .int (iI a) :: rest)) := lv_icmp_gt X.1.1 X.1.2.1 hd ht (fun h => kt ((iI_lt hb ha).mp h)) (fun h => kf (fun g => h ((iI_lt hb ha).mpr g)))
theorem sy_if_gt (X : CX D tys own cc nL p m c s args) {a : Int} {off : Int} {tgt : Nat} (hd : decode cc pc = .ok (.ifCond .gt off, 3)) (ht : (pc : Int) + off = (tgt : Int)) (ha : R31 a) (kt : 0 < a → W p l e R s m args below meth c H locs cells slots Q (F0 m tgt ls (rest))) (kf : ¬ (0 < a) → W p l e R s m args below meth c H locs cells slots Q (F0 m (pc + 3) ls (rest))) : W p l e R s m args below meth c H locs cells slots Q (F0 m pc ls (.int (iI a) :: rest)) := lv_if_gt X.1.1 X.1.2.1 hd ht (fun h => kt ((iI_lt iI_R0 ha).mp h)) (fun h => kf (fun g => h ((iI_lt iI_R0 ha).mpr g)))
theorem sy_icmp_le (X : CX D tys own cc nL p m c s args) {a b : Int} {off : Int} {tgt : Nat} (hd : decode cc pc = .ok (.if_icmp .le off, 3)) (ht : (pc : Int) + off = (tgt : Int)) (ha : R31 a) (hb : R31 b) (kt : a ≤ b → W p l e R s m args below meth c H locs cells slots Q (F0 m tgt ls (rest))) (kf : ¬ (a ≤ b) → W p l e R s m args below meth c H locs cells slots Q (F0 m (pc + 3) ls (rest))) : W p l e R s m args below meth c H locs cells slots Q (F0 m pc ls (.int (iI b) :: .int (iI a) :: rest)) := lv_icmp_le X.1.1 X.1.2.1 hd ht (fun h => kt ((iI_le ha hb).mp h)) (fun h => kf (fun g => h ((iI_le ha hb).mpr g)))
theorem sy_if_le (X : CX D tys own cc nL p m c s args) {a : Int} {off : Int} {tgt : Nat} (hd : decode cc pc = .ok (.ifCond .le off, 3)) (ht : (pc : Int) + off = (tgt : Int)) (ha : R31 a) (kt : a ≤ 0 → W p l e R s m args below meth c H locs cells slots Q (F0 m tgt ls (rest))) (kf : ¬ (a ≤ 0) → W p l e R s m args below meth c H locs cells slots Q (F0 m (pc + 3) ls (rest))) : W p l e R s m args below meth c H locs cells slots Q (F0 m pc ls (.int (iI a) :: rest)) := lv_if_le X.1.1 X.1.2.1 hd ht (fun h => kt ((iI_le ha iI_R0).mp h)) (fun h => kf (fun g => h ((iI_le ha iI_R0).mpr g)))
theorem lg_cmpZ {a b : Int} (ha : R63 a) (hb : R63 b) : lg_cmp (jI a) (jI b) = iI (if b < a then 1 else if a = b then 0 else -1) := by
  unfold lg_cmp
  by_cases h1 : b < a
  · rw [if_pos ((jI_lt hb ha).mpr h1), if_pos h1]; rfl
  · rw [if_neg (fun g => h1 ((jI_lt hb ha).mp g)), if_neg h1]
    by_cases h2 : a = b
    · rw [if_pos ((jI_eq ha hb).mpr h2), if_pos h2]; rfl
    · rw [if_neg (fun g => h2 ((jI_eq ha hb).mp g)), if_neg h2]; rfl
theorem sy_lcif_eq (X : CX D tys own cc nL p m c s args) {a b : Int} {off : Int} {tgt : Nat} (hd0 : decode cc pc = .ok (.lcmp, 1)) (hd : decode cc (pc + 1) = .ok (.ifCond .eq off, 3)) (ht : ((pc + 1 : Nat) : Int) + off = (tgt : Int)) (ha : R63 a) (hb : R63 b) (kt : a = b → W p l e R s m args below meth c H locs cells slots Q (F0 m tgt ls (rest))) (kf : ¬ (a = b) → W p l e R s m args below meth c H locs cells slots Q (F0 m (pc + 1 + 3) ls (rest))) : W p l e R s m args below meth c H locs cells slots Q (F0 m pc ls (.long (jI b) :: .long (jI a) :: rest)) := by
  refine W.lcmp X.1.1 X.1.2.1 hd0 ?_
  rw [lg_cmpZ ha hb]
  have hr : R31 (if b < a then 1 else if a = b then 0 else -1) := by
    constructor <;> (split <;> (try split) <;> decide)
  refine sy_if_eq X hd ht hr (fun h => kt ?_) (fun h => kf ?_)
  · by_cases h1 : b < a
    · rw [if_pos h1] at h; omega
    · rw [if_neg h1] at h
      by_cases h2 : a = b
      · rw [if_pos h2] at h; omega
      · rw [if_neg h2] at h; omega
  · by_cases h1 : b < a
    · rw [if_pos h1] at h; omega
    · rw [if_neg h1] at h
      by_cases h2 : a = b
      · rw [if_pos h2] at h; omega
      · rw [if_neg h2] at h; omega
theorem sy_lcif_ne (X : CX D tys own cc nL p m c s args) {a b : Int} {off : Int} {tgt : Nat} (hd0 : decode cc pc = .ok (.lcmp, 1)) (hd : decode cc (pc + 1) = .ok (.ifCond .ne off, 3)) (ht : ((pc + 1 : Nat) : Int) + off = (tgt : Int)) (ha : R63 a) (hb : R63 b) (kt : a ≠ b → W p l e R s m args below meth c H locs cells slots Q (F0 m tgt ls (rest))) (kf : a = b → W p l e R s m args below meth c H locs cells slots Q (F0 m (pc + 1 + 3) ls (rest))) : W p l e R s m args below meth c H locs cells slots Q (F0 m pc ls (.long (jI b) :: .long (jI a) :: rest)) := by
  refine W.lcmp X.1.1 X.1.2.1 hd0 ?_
  rw [lg_cmpZ ha hb]
  have hr : R31 (if b < a then 1 else if a = b then 0 else -1) := by
    constructor <;> (split <;> (try split) <;> decide)
  refine sy_if_ne X hd ht hr (fun h => kt ?_) (fun h => kf ?_)
  · by_cases h1 : b < a
    · rw [if_pos h1] at h; omega
    · rw [if_neg h1] at h
      by_cases h2 : a = b
      · rw [if_pos h2] at h; omega
      · rw [if_neg h2] at h; omega
  · by_cases h1 : b < a
    · rw [if_pos h1] at h; omega
    · rw [if_neg h1] at h
      by_cases h2 : a = b
      · rw [if_pos h2] at h; omega
      · rw [if_neg h2] at h; omega
theorem sy_lcif_lt (X : CX D tys own cc nL p m c s args) {a b : Int} {off : Int} {tgt : Nat} (hd0 : decode cc pc = .ok (.lcmp, 1)) (hd : decode cc (pc + 1) = .ok (.ifCond .lt off, 3)) (ht : ((pc + 1 : Nat) : Int) + off = (tgt : Int)) (ha : R63 a) (hb : R63 b) (kt : a < b → W p l e R s m args below meth c H locs cells slots Q (F0 m tgt ls (rest))) (kf : ¬ (a < b) → W p l e R s m args below meth c H locs cells slots Q (F0 m (pc + 1 + 3) ls (rest))) : W p l e R s m args below meth c H locs cells slots Q (F0 m pc ls (.long (jI b) :: .long (jI a) :: rest)) := by
  refine W.lcmp X.1.1 X.1.2.1 hd0 ?_
  rw [lg_cmpZ ha hb]
  have hr : R31 (if b < a then 1 else if a = b then 0 else -1) := by
    constructor <;> (split <;> (try split) <;> decide)
  refine sy_if_lt X hd ht hr (fun h => kt ?_) (fun h => kf ?_)
  · by_cases h1 : b < a
    · rw [if_pos h1] at h; omega
    · rw [if_neg h1] at h
      by_cases h2 : a = b
      · rw [if_pos h2] at h; omega
      · rw [if_neg h2] at h; omega
  · by_cases h1 : b < a
    · rw [if_pos h1] at h; omega
    · rw [if_neg h1] at h
      by_cases h2 : a = b
      · rw [if_pos h2] at h; omega
      · rw [if_neg h2] at h; omega
theorem sy_lcif_ge (X : CX D tys own cc nL p m c s args) {a b : Int} {off : Int} {tgt : Nat} (hd0 : decode cc pc = .ok (.lcmp, 1)) (hd : decode cc (pc + 1) = .ok (.ifCond .ge off, 3)) (ht : ((pc + 1 : Nat) : Int) + off = (tgt : Int)) (ha : R63 a) (hb : R63 b) (kt : b ≤ a → W p l e R s m args below meth c H locs cells slots Q (F0 m tgt ls (rest))) (kf : ¬ (b ≤ a) → W p l e R s m args below meth c H locs cells slots Q (F0 m (pc + 1 + 3) ls (rest))) : W p l e R s m args below meth c H locs cells slots Q (F0 m pc ls (.long (jI b) :: .long (jI a) :: rest)) := by
  refine W.lcmp X.1.1 X.1.2.1 hd0 ?_
  rw [lg_cmpZ ha hb]
  have hr : R31 (if b < a then 1 else if a = b then 0 else -1) := by
    constructor <;> (split <;> (try split) <;> decide)
  refine sy_if_ge X hd ht hr (fun h => kt ?_) (fun h => kf ?_)
  · by_cases h1 : b < a
    · rw [if_pos h1] at h; omega
    · rw [if_neg h1] at h
      by_cases h2 : a = b
      · rw [if_pos h2] at h; omega
      · rw [if_neg h2] at h; omega
  · by_cases h1 : b < a
    · rw [if_pos h1] at h; omega
    · rw [if_neg h1] at h
      by_cases h2 : a = b
      · rw [if_pos h2] at h; omega
      · rw [if_neg h2] at h; omega
theorem sy_lcif_gt (X : CX D tys own cc nL p m c s args) {a b : Int} {off : Int} {tgt : Nat} (hd0 : decode cc pc = .ok (.lcmp, 1)) (hd : decode cc (pc + 1) = .ok (.ifCond .gt off, 3)) (ht : ((pc + 1 : Nat) : Int) + off = (tgt : Int)) (ha : R63 a) (hb : R63 b) (kt : b < a → W p l e R s m args below meth c H locs cells slots Q (F0 m tgt ls (rest))) (kf : ¬ (b < a) → W p l e R s m args below meth c H locs cells slots Q (F0 m (pc + 1 + 3) ls (rest))) : W p l e R s m args below meth c H locs cells slots Q (F0 m pc ls (.long (jI b) :: .long (jI a) :: rest)) := by
  refine W.lcmp X.1.1 X.1.2.1 hd0 ?_
  rw [lg_cmpZ ha hb]
  have hr : R31 (if b < a then 1 else if a = b then 0 else -1) := by
    constructor <;> (split <;> (try split) <;> decide)
  refine sy_if_gt X hd ht hr (fun h => kt ?_) (fun h => kf ?_)
  · by_cases h1 : b < a
    · rw [if_pos h1] at h; omega
    · rw [if_neg h1] at h
      by_cases h2 : a = b
      · rw [if_pos h2] at h; omega
      · rw [if_neg h2] at h; omega
  · by_cases h1 : b < a
    · rw [if_pos h1] at h; omega
    · rw [if_neg h1] at h
      by_cases h2 : a = b
      · rw [if_pos h2] at h; omega
      · rw [if_neg h2] at h; omega
theorem sy_lcif_le (X : CX D tys own cc nL p m c s args) {a b : Int} {off : Int} {tgt : Nat} (hd0 : decode cc pc = .ok (.lcmp, 1)) (hd : decode cc (pc + 1) = .ok (.ifCond .le off, 3)) (ht : ((pc + 1 : Nat) : Int) + off = (tgt : Int)) (ha : R63 a) (hb : R63 b) (kt : a ≤ b → W p l e R s m args below meth c H locs cells slots Q (F0 m tgt ls (rest))) (kf : ¬ (a ≤ b) → W p l e R s m args below meth c H locs cells slots Q (F0 m (pc + 1 + 3) ls (rest))) : W p l e R s m args below meth c H locs cells slots Q (F0 m pc ls (.long (jI b) :: .long (jI a) :: rest)) := by
  refine W.lcmp X.1.1 X.1.2.1 hd0 ?_
  rw [lg_cmpZ ha hb]
  have hr : R31 (if b < a then 1 else if a = b then 0 else -1) := by
    constructor <;> (split <;> (try split) <;> decide)
  refine sy_if_le X hd ht hr (fun h => kt ?_) (fun h => kf ?_)
  · by_cases h1 : b < a
    · rw [if_pos h1] at h; omega
    · rw [if_neg h1] at h
      by_cases h2 : a = b
      · rw [if_pos h2] at h; omega
      · rw [if_neg h2] at h; omega
  · by_cases h1 : b < a
    · rw [if_pos h1] at h; omega
    · rw [if_neg h1] at h
      by_cases h2 : a = b
      · rw [if_pos h2] at h; omega
      · rw [if_neg h2] at h; omega
theorem ret_v (X : CX D tys own cc nL p m c s args) {S : Type} {ws0 : va_W} {post : S → Prop} {rv : S → Option Value} {ws1 : S → va_W} (u : S)  (hr : meth.sig.returnType = none) (hlocks : meth.locks = false) (hd : decode cc pc = .ok (.return_, 1)) (hw : HW D (va_A ws0 s.heap.size) s.heap (ws1 u) H locs) (hp : post u) (hv : rv u = none) : W p l e R s m args below meth c H locs cells slots (MQ below (QX D tys ws0 post rv ws1 s.heap.size) args s cells slots (va_A ws0 s.heap.size)) (F0 m pc ls []) := by
  obtain ⟨hP, hD, hS, hA⟩ := hw
  exact W.vret X.1.1 X.1.2.1 (hlocks := hlocks) hr (fun t ht hW => ⟨⟨u, by rw [hv], hp, by rw [ht]; exact hP, va_K.moved hW.alike X.2, hD⟩, hS.F ht⟩) hS.2.2 hd
theorem ret_i (X : CX D tys own cc nL p m c s args) {S : Type} {ws0 : va_W} {post : S → Prop} {rv : S → Option Value} {ws1 : S → va_W} (u : S) {v : Int32} (hr : meth.sig.returnType = some .int) (hlocks : meth.locks = false) (hd : decode cc pc = .ok (.ireturn, 1)) (hw : HW D (va_A ws0 s.heap.size) s.heap (ws1 u) H locs) (hp : post u) (hv : rv u = some (.int v)) : W p l e R s m args below meth c H locs cells slots (MQ below (QX D tys ws0 post rv ws1 s.heap.size) args s cells slots (va_A ws0 s.heap.size)) (F0 m pc ls [.int v]) := by
  obtain ⟨hP, hD, hS, hA⟩ := hw
  exact W.iret X.1.1 X.1.2.1 (hlocks := hlocks) hr (fun t ht hW => ⟨⟨u, by rw [hv], hp, by rw [ht]; exact hP, va_K.moved hW.alike X.2, hD⟩, hS.F ht⟩) hS.2.2 hd
theorem ret_z (X : CX D tys own cc nL p m c s args) {S : Type} {ws0 : va_W} {post : S → Prop} {rv : S → Option Value} {ws1 : S → va_W} (u : S) {v : Int32} (hz : narrow .boolean (.int v) = .int v) (hr : meth.sig.returnType = some .boolean) (hlocks : meth.locks = false) (hd : decode cc pc = .ok (.ireturn, 1)) (hw : HW D (va_A ws0 s.heap.size) s.heap (ws1 u) H locs) (hp : post u) (hv : rv u = some (.int v)) : W p l e R s m args below meth c H locs cells slots (MQ below (QX D tys ws0 post rv ws1 s.heap.size) args s cells slots (va_A ws0 s.heap.size)) (F0 m pc ls [.int v]) := by
  obtain ⟨hP, hD, hS, hA⟩ := hw
  exact W.zret X.1.1 X.1.2.1 (hlocks := hlocks) hr hz (fun t ht hW => ⟨⟨u, by rw [hv], hp, by rw [ht]; exact hP, va_K.moved hW.alike X.2, hD⟩, hS.F ht⟩) hS.2.2 hd
theorem ret_j (X : CX D tys own cc nL p m c s args) {S : Type} {ws0 : va_W} {post : S → Prop} {rv : S → Option Value} {ws1 : S → va_W} (u : S) {v : Int64} (hr : meth.sig.returnType = some .long) (hlocks : meth.locks = false) (hd : decode cc pc = .ok (.lreturn, 1)) (hw : HW D (va_A ws0 s.heap.size) s.heap (ws1 u) H locs) (hp : post u) (hv : rv u = some (.long v)) : W p l e R s m args below meth c H locs cells slots (MQ below (QX D tys ws0 post rv ws1 s.heap.size) args s cells slots (va_A ws0 s.heap.size)) (F0 m pc ls [.long v]) := by
  obtain ⟨hP, hD, hS, hA⟩ := hw
  exact W.lret X.1.1 X.1.2.1 (hlocks := hlocks) hr (fun t ht hW => ⟨⟨u, by rw [hv], hp, by rw [ht]; exact hP, va_K.moved hW.alike X.2, hD⟩, hS.F ht⟩) hS.2.2 hd
theorem ret_a (X : CX D tys own cc nL p m c s args) {S : Type} {ws0 : va_W} {post : S → Prop} {rv : S → Option Value} {ws1 : S → va_W} (u : S) {C : String} {v : Nat} (hr : meth.sig.returnType = some (.object C)) (hlocks : meth.locks = false) (hd : decode cc pc = .ok (.areturn, 1)) (hw : HW D (va_A ws0 s.heap.size) s.heap (ws1 u) H locs) (hp : post u) (hv : rv u = some (.ref v)) : W p l e R s m args below meth c H locs cells slots (MQ below (QX D tys ws0 post rv ws1 s.heap.size) args s cells slots (va_A ws0 s.heap.size)) (F0 m pc ls [.ref v]) := by
  obtain ⟨hP, hD, hS, hA⟩ := hw
  exact W.aret X.1.1 X.1.2.1 (hlocks := hlocks) hr (Or.inl ⟨C, rfl⟩) (Or.inr ⟨v, rfl⟩) (fun t ht hW => ⟨⟨u, by rw [hv], hp, by rw [ht]; exact hP, va_K.moved hW.alike X.2, hD⟩, hS.F ht⟩) hS.2.2 hd
theorem sy_get (X : CX D tys own cc nL p m c s args) {a : Nat} {ws : va_W} (hw : HW D A H0 ws H locs) {q0 ci N k idx : Nat} {fs : List Value} {C : String} {T : u_T} {v : Value} (he : ws[q0]? = some (a, .inr (ci, fs))) (hc : classes[ci]? = some (C, T, N)) (hi : ∀ w ∈ u_ws C T N, w ∈ TT) (hk : k < N) (hl : Cond.fieldLink own idx (T k).1 (T k).2.1 (T k).2.2.1 ∈ TT) (hv : fs[k]? = some v) (hd : decode cc pc = .ok (.getfield idx, 3)) (kk : W p l e R s m args below meth c H locs cells slots Q (F0 m (pc + 3) ls (v :: rest))) : W p l e R s m args below meth c H locs cells slots Q (F0 m pc ls (.ref a :: rest)) :=
  va_get X.1.1 X.1.2.1 X.1.2.2.2.2 hi X.1.2.2.2.1 X.2 hw.1 q0 he hc k hk (X.1.2.2.2.2 _ hl) (fun _ h => h) hv hd kk
end Sy
