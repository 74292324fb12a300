def arq (c : ClassId) (n : Nat) (f : Nat → Option Nat) : va_E := .inl (c, n, .inr (.inr (.inr (.inr f))))
def fH (x1 x2 x3 x4 com b0 b1 b2 t0 t1 t2 t3 : Nat) : List Value := [.ref x1, .ref x2, .ref x3, .ref x4, .ref com, .int 0, .int 0, .ref b0, .ref b1, .ref b2, .ref t0, .ref t1, .ref t2, .ref t3]
def hdE (cs : Nat → ClassId) (h x1 x2 x3 x4 com b0 b1 b2 t0 t1 t2 t3 : Nat) (f2 f3 f4 : Nat → Option Nat) : va_W := [(h, .inr (4, fH x1 x2 x3 x4 com b0 b1 b2 t0 t1 t2 t3)), (x1, arq (cs 2) 10 f2), (x2, ar (cs 0) 4 (fun _ => 0)), (x3, arq (cs 3) 6 f3), (x4, arq (cs 4) 3 f4), (com, .inr (2, zQ))]
def upG {α : Type} (f : Nat → α) (i : Nat) (x : α) : Nat → α := fun k => if k = i then x else f k
def pf (f : Nat → Nat) (i : Nat) : Nat → Option Nat := fun k => if k < i then some (f k) else none
theorem pf_0 (f : Nat → Nat) : pf f 0 = fun _ => none := by funext k; unfold pf; rw [if_neg (by omega)]
theorem pf_up (f : Nat → Nat) (i q : Nat) : va_up (pf f i) i (some q) = pf (upG f i q) (i + 1) := by
  funext k
  unfold va_up pf upG
  by_cases h : k = i
  · subst h; rw [if_pos rfl, if_pos (by omega), if_pos rfl]
  · by_cases g : k < i
    · rw [if_neg h, if_pos g, if_pos (by omega), if_neg h]
    · rw [if_neg h, if_neg g, if_neg (by omega)]
theorem upG_s {α : Type} (f : Nat → α) (i : Nat) (x : α) : upG f i x i = x := if_pos rfl
theorem upG_n {α : Type} {f : Nat → α} {i k : Nat} {x : α} (h : k ≠ i) : upG f i x k = f k := if_neg h
theorem flat_up (cs : Nat → ClassId) (fb : Nat → Nat) (wa wb : Nat → Nat → Nat) (i q : Nat) (a b : Nat → Nat) : (List.range i).flatMap (fun k => nB cs (fb k) (wa k) (wb k)) ++ nB cs q a b = (List.range (i + 1)).flatMap (fun k => nB cs (upG fb i q k) (upG wa i a k) (upG wb i b k)) := by
  rw [List.range_succ, List.flatMap_append]
  have e : (List.range i).flatMap (fun k => nB cs (upG fb i q k) (upG wa i a k) (upG wb i b k)) = (List.range i).flatMap (fun k => nB cs (fb k) (wa k) (wb k)) := flat_congr (fun k hk => by rw [upG_n (by omega), upG_n (by omega), upG_n (by omega)])
  rw [e]
  simp only [List.flatMap_cons, List.flatMap_nil, upG_s, List.append_nil]
theorem map_up {α : Type} (g : Nat → α) (f : Nat → Nat) (i q : Nat) (x : va_E) : (List.range i).map (fun k => (f k, x)) ++ [(q, x)] = (List.range (i + 1)).map (fun k => (upG f i q k, x)) := by
  rw [List.range_succ, List.map_append]
  have e : (List.range i).map (fun k => (upG f i q k, x)) = (List.range i).map (fun k => (f k, x)) := List.map_congr_left (fun k hk => by rw [upG_n (by have := List.mem_range.mp hk; omega)])
  rw [e]
  simp only [List.map_cons, List.map_nil, upG_s]
def P1 : Nat → Nat → Int := up2 (up2 (up2 (up2 (up2 (up2 (up2 Z2 3 0 1) 3 1 0) 3 2 0) 3 3 1) 3 4 1) 3 5 0) 3 6 1
def z1E : Nat → Int := setB Z1 0 (estV 0 0 1 0 1)
def TT3 (cs : Nat → ClassId) (b0 b1 b2 t0 t1 t2 t3 u0 u1 u2 u3 : Nat) (a0 a1 a2 c0 c1 c2 : Nat → Nat) : va_W := (nB cs b0 a0 c0 ++ (nB cs b1 a1 c1 ++ nB cs b2 a2 c2)) ++ (List.range 4).flatMap (fun k => oW cs (l9 t0 t1 t2 t3 0 0 0 0 0 k) (l9 u0 u1 u2 u3 0 0 0 0 0 k))
def f13 {α : Type} (f : Nat → α) (x y w : α) : Nat → α := fun b => if b < 10 then f b else if b = 10 then x else if b = 11 then y else w
theorem flat_13 (cs : Nat → ClassId) (fb : Nat → Nat) (wa wb : Nat → Nat → Nat) (b0 b1 b2 : Nat) (a0 a1 a2 c0 c1 c2 : Nat → Nat) : (List.range 13).flatMap (fun b => nB cs (f13 fb b0 b1 b2 b) (f13 wa a0 a1 a2 b) (f13 wb c0 c1 c2 b)) = (List.range 10).flatMap (fun b => nB cs (fb b) (wa b) (wb b)) ++ (nB cs b0 a0 c0 ++ (nB cs b1 a1 c1 ++ nB cs b2 a2 c2)) := by
  rw [show (13 : Nat) = 10 + 3 from rfl, List.range_add, List.flatMap_append]
  have e : (List.range 10).flatMap (fun b => nB cs (f13 fb b0 b1 b2 b) (f13 wa a0 a1 a2 b) (f13 wb c0 c1 c2 b)) = (List.range 10).flatMap (fun b => nB cs (fb b) (wa b) (wb b)) := flat_congr (fun k hk => by unfold f13; rw [if_pos hk, if_pos hk, if_pos hk])
  rw [e]
  congr 1
/-- all cells of the new object, in order -/
theorem new_world {D : va_G} {A : Nat → Prop} {H0 : Heap} {H : Heap} {locs : List Loc} (cs : Nat → ClassId) (h x1 x2 x3 x4 com b0 b1 b2 t0 t1 t2 t3 u0 u1 u2 u3 : Nat) (a0 a1 a2 c0 c1 c2 : Nat → Nat) (fb fo fq : Nat → Nat) (wa wb : Nat → Nat → Nat)
    (hw : HW D A H0 (hdE cs h x1 x2 x3 x4 com b0 b1 b2 t0 t1 t2 t3 (pf fb 10) (pf fo 6) (pf fq 3) ++ (((TT3 cs b0 b1 b2 t0 t1 t2 t3 u0 u1 u2 u3 a0 a1 a2 c0 c1 c2 ++ (List.range 10).flatMap (fun b => nB cs (fb b) (wa b) (wb b))) ++ (List.range 6).map (fun k => (fo k, .inr (1, zO)))) ++ (List.range 3).map (fun k => (fq k, .inr (2, zQ))))) H locs) :
    HW D A H0 (wE (adE h x1 x2 x3 x4 com fo fq (f13 fb b0 b1 b2) (f13 wa a0 a1 a2) (f13 wb c0 c1 c2) (l9 t0 t1 t2 t3 0 0 0 0 0) (l9 u0 u1 u2 u3 0 0 0 0 0)) cs Z2 Z2 Z2 Z1) H locs := by
  obtain ⟨ad, had⟩ : ∃ ad, ad = adE h x1 x2 x3 x4 com fo fq (f13 fb b0 b1 b2) (f13 wa a0 a1 a2) (f13 wb c0 c1 c2) (l9 t0 t1 t2 t3 0 0 0 0 0) (l9 u0 u1 u2 u3 0 0 0 0 0) := ⟨_, rfl⟩
  rw [← had]
  have hB := perm_B cs ad (f13 fb b0 b1 b2) (f13 wa a0 a1 a2) (f13 wb c0 c1 c2) (l9 t0 t1 t2 t3 0 0 0 0 0) (l9 u0 u1 u2 u3 0 0 0 0 0)
    (fun b hb j hj => by rw [had]; show (if 9 * b + j < 117 then _ else _) = _; rw [if_pos (by omega), show (9 * b + j) / 9 = b by omega, show (9 * b + j) % 9 = j by omega])
    (fun b hb j hj => by rw [had]; show (if 9 * b + j < 117 then _ else _) = _; rw [if_pos (by omega), show (9 * b + j) / 9 = b by omega, show (9 * b + j) % 9 = j by omega])
    (fun b => by rw [had]; rfl)
    (fun k hk => by rw [had]; show (if 117 + k < 117 then _ else _) = _; rw [if_neg (by omega), show 117 + k - 117 = k by omega])
    (fun k hk => by rw [had]; show (if 117 + k < 117 then _ else _) = _; rw [if_neg (by omega), show 117 + k - 117 = k by omega])
  rw [flat_13] at hB
  have hw1 := HW.entry (ws1 := [(h, .inr (4, fH x1 x2 x3 x4 com b0 b1 b2 t0 t1 t2 t3))]) hw (arf_ext (g := fun k => some (ad 2 k)) (fun k hk => by unfold pf; rw [if_pos hk, had]; show _ = some (f13 fb b0 b1 b2 k); unfold f13; rw [if_pos hk]))
  have hw2 := HW.entry (ws1 := [(h, .inr (4, fH x1 x2 x3 x4 com b0 b1 b2 t0 t1 t2 t3)), (x1, arf (cs 2) 10 (ad 2)), (x2, ar (cs 0) 4 (fun _ => 0))]) hw1 (arf_ext (g := fun k => some (ad 3 k)) (fun k hk => by unfold pf; rw [if_pos hk, had]; rfl))
  have hw3 := HW.entry (ws1 := [(h, .inr (4, fH x1 x2 x3 x4 com b0 b1 b2 t0 t1 t2 t3)), (x1, arf (cs 2) 10 (ad 2)), (x2, ar (cs 0) 4 (fun _ => 0)), (x3, arf (cs 3) 6 (ad 3))]) hw2 (arf_ext (g := fun k => some (ad 4 k)) (fun k hk => by unfold pf; rw [if_pos hk, had]; show _ = some (if k < 3 then fq k else com); rw [if_pos hk]))
  have hp := @perm_fin (Nat × va_E) (Classical.typeDecidableEq _) [(h, .inr (4, fH x1 x2 x3 x4 com b0 b1 b2 t0 t1 t2 t3)), (x1, arf (cs 2) 10 (ad 2)), (x2, ar (cs 0) 4 (fun _ => 0)), (x3, arf (cs 3) 6 (ad 3)), (x4, arf (cs 4) 3 (ad 4))] _ _ _ ((List.range 6).map (fun k => (fo k, .inr (1, zO)))) ((List.range 3).map (fun k => (fq k, .inr (2, zQ)))) _ _ (com, .inr (2, zQ)) hB
  have hw4 := HW.perm hw3 hp
  have eq : wE ad cs Z2 Z2 Z2 Z1 = [(h, .inr (4, fH x1 x2 x3 x4 com b0 b1 b2 t0 t1 t2 t3)), (x1, arf (cs 2) 10 (ad 2)), (x2, ar (cs 0) 4 (fun _ => 0)), (x3, arf (cs 3) 6 (ad 3)), (x4, arf (cs 4) 3 (ad 4))] ++ (((List.range 6).map (fun k => (fo k, .inr (1, zO))) ++ (((List.range 3).map (fun k => (fq k, .inr (2, zQ))) ++ [(com, .inr (2, zQ))]) ++ (List.range 13).map (fun b => (ad 2 b, .inr (0, fB ad b))))) ++ wZ ad cs Z1) := by
    have e1 : XE ad cs Z2 = [(h, .inr (4, fH x1 x2 x3 x4 com b0 b1 b2 t0 t1 t2 t3)), (x1, arf (cs 2) 10 (ad 2)), (x2, ar (cs 0) 4 (fun _ => 0)), (x3, arf (cs 3) 6 (ad 3)), (x4, arf (cs 4) 3 (ad 4))] := by rw [had]; rfl
    have e2 : XC ad Z2 Z2 = (List.range 6).map (fun k => (fo k, .inr (1, zO))) ++ (((List.range 3).map (fun k => (fq k, .inr (2, zQ))) ++ [(com, .inr (2, zQ))]) ++ (List.range 13).map (fun b => (ad 2 b, .inr (0, fB ad b)))) := by rw [had]; rfl
    unfold wE wO
    rw [e1, e2]
  rw [eq]
  exact hw4
set_option maxRecDepth 100000 in
set_option maxHeartbeats 8000000 in
theorem z_E_init (l : Launch) (D : va_G) (cs : Nat → ClassId) (h : Nat) : CtZ (S := Nat → Nat → Nat) l D (tyL cs) y_E_init b_E_init 2 (rmc 4 269 930) [.ref h] [(h, .inr (4, [.null, .null, .null, .null, .null, .int 0, .int 0, .null, .null, .null, .null, .null, .null, .null]))] (fun ad => ad 5 0 = h) (fun ad => wE ad cs Z2 Z2 P1 z1E) := by
  refine CtZ.intro (by decide) (Nat.le_of_ble_eq_true rfl) ?_
  intro p e s m below meth c A args Q H locs hz X hnm hw kr ls hl
  have X : CX D (tyL cs) R_E b_E_init 2 p m c s args := X
  have hl : lv_has ls 2 [(0, .ref h)] := hl
  have tail : ∀ (x1 x2 x3 x4 com b0 b1 b2 t0 t1 t2 t3 u0 u1 u2 u3 : Nat) (a0 a1 a2 c0 c1 c2 : Nat → Nat) (fb fo fq : Nat → Nat) (wa wb : Nat → Nat → Nat) (H : Heap) (locs : List Loc) (ls : Array Slot), HW D A s.heap (hdE cs h x1 x2 x3 x4 com b0 b1 b2 t0 t1 t2 t3 (pf fb 10) (pf fo 6) (pf fq 3) ++ (((TT3 cs b0 b1 b2 t0 t1 t2 t3 u0 u1 u2 u3 a0 a1 a2 c0 c1 c2 ++ (List.range 10).flatMap (fun b => nB cs (fb b) (wa b) (wb b))) ++ (List.range 6).map (fun k => (fo k, .inr (1, zO)))) ++ (List.range 3).map (fun k => (fq k, .inr (2, zQ))))) H locs → lv_has ls 2 [(0, .ref h)] → W p l e (rmc 4 269 930) s m args below meth c H locs 269 930 Q (F0 m 205 ls []) := by
    intro x1 x2 x3 x4 com b0 b1 b2 t0 t1 t2 t3 u0 u1 u2 u3 a0 a1 a2 c0 c1 c2 fb fo fq wa wb H locs ls hw hl
    have hw := new_world cs h x1 x2 x3 x4 com b0 b1 b2 t0 t1 t2 t3 u0 u1 u2 u3 a0 a1 a2 c0 c1 c2 fb fo fq wa wb hw
    obtain ⟨ad, had⟩ : ∃ ad, ad = adE h x1 x2 x3 x4 com fo fq (f13 fb b0 b1 b2) (f13 wa a0 a1 a2) (f13 wb c0 c1 c2) (l9 t0 t1 t2 t3 0 0 0 0 0) (l9 u0 u1 u2 u3 0 0 0 0 0) := ⟨_, rfl⟩
    rw [← had] at hw
    have h5 : ad 5 0 = h := by rw [had]; rfl
    rw [← h5] at hl
    refine sy_aload_n X d_E_init_205 hl 0 rfl ?_
    refine e_get X hw 4 (by decide) rfl (tt_of k202 rfl) d_E_init_206 ?_
    refine sy_iconst X d_E_init_209 ?_
    refine sy_iconst X d_E_init_210 ?_
    refine sy_iconst X d_E_init_211 ?_
    refine sy_iconst X d_E_init_212 ?_
    refine call_Vv (Xs := XE ad cs Z2) (b := ad 4 3) (As := [.int (iI 1), .int (iI 0), .int (iI 0), .int (iI 1)]) (rest := []) X lk_E_64 (c_Q_setStep l D cs ad Z2 Z2 Z1 3 1 0 0 1 (by decide)) ⟨by decide, by decide⟩ (rcv_Q (by decide)) hw rfl hl.1 (Nat.le_of_ble_eq_true rfl) d_E_init_213 rfl rfl ⟨by decide, by decide⟩ (fun _ H locs _ hw => ?_)
    refine sy_aload_n X d_E_init_216 hl 0 rfl ?_
    refine e_get X hw 4 (by decide) rfl (tt_of k202 rfl) d_E_init_217 ?_
    refine sy_iconst X d_E_init_220 ?_
    refine sy_iconst X d_E_init_221 ?_
    refine sy_iconst X d_E_init_222 ?_
    refine call_Vv (Xs := XE ad cs Z2) (b := ad 4 3) (As := [.int (iI 1), .int (iI 0), .int (iI 1)]) (rest := []) X lk_E_68 (c_Q_setNoise l D cs ad Z2 (up2 (up2 (up2 (up2 Z2 3 0 1) 3 1 0) 3 2 0) 3 3 1) Z1 3 1 0 1 (by decide)) ⟨by decide, by decide⟩ (rcv_Q (by decide)) hw rfl hl.1 (Nat.le_of_ble_eq_true rfl) d_E_init_223 rfl rfl ⟨by decide, by decide⟩ (fun _ H locs _ hw => ?_)
    refine sy_aload_n X d_E_init_226 hl 0 rfl ?_
    refine e_get X hw 0 (by decide) rfl (tt_of k198 rfl) d_E_init_227 ?_
    refine sy_iconst X d_E_init_230 ?_
    refine e_aldB X hw 0 rfl (by decide) d_E_init_231 ?_
    refine sy_iconst X d_E_init_232 ?_
    refine sy_iconst X d_E_init_233 ?_
    refine sy_iconst X d_E_init_234 ?_
    refine sy_iconst X d_E_init_235 ?_
    refine sy_iconst X d_E_init_236 ?_
    refine call_Vv (Xs := XE ad cs Z2) (b := ad 2 0) (As := [.int (iI 0), .int (iI 0), .int (iI 1), .int (iI 0), .int (iI 1)]) (rest := []) X lk_E_72 (c_B_setEstimate l D cs ad Z2 P1 Z1 0 0 0 1 0 1 (by decide) (by decide) (by decide) (by decide) (by decide) (by decide)) ⟨by decide, by decide⟩ (rcv_B (by decide)) hw rfl hl.1 (Nat.le_of_ble_eq_true rfl) d_E_init_237 rfl rfl ⟨by decide, by decide⟩ (fun _ H locs _ hw => ?_)
    exact kr ad H locs _ _ d_E_init_240 hw h5
  have lp3 : ∀ (x1 x2 x3 x4 com b0 b1 b2 t0 t1 t2 t3 u0 u1 u2 u3 : Nat) (a0 a1 a2 c0 c1 c2 : Nat → Nat) (fb fo : Nat → Nat) (wa wb : Nat → Nat → Nat) (n : Nat) (i : Nat) (fq : Nat → Nat) (H : Heap) (locs : List Loc) (ls : Array Slot), i ≤ 3 → 3 < i + n → HW D A s.heap (hdE cs h x1 x2 x3 x4 com b0 b1 b2 t0 t1 t2 t3 (pf fb 10) (pf fo 6) (pf fq i) ++ (((TT3 cs b0 b1 b2 t0 t1 t2 t3 u0 u1 u2 u3 a0 a1 a2 c0 c1 c2 ++ (List.range 10).flatMap (fun b => nB cs (fb b) (wa b) (wb b))) ++ (List.range 6).map (fun k => (fo k, .inr (1, zO)))) ++ (List.range i).map (fun k => (fq k, .inr (2, zQ))))) H locs → lv_has ls 2 [(1, .int (iI ((i : Nat) : Int))), (0, .ref h)] → W p l e (rmc 4 269 930) s m args below meth c H locs (266 + 1 * i) (909 + 7 * i) Q (F0 m 181 ls []) := by
    intro x1 x2 x3 x4 com b0 b1 b2 t0 t1 t2 t3 u0 u1 u2 u3 a0 a1 a2 c0 c1 c2 fb fo wa wb n
    induction n with
    | zero =>
      intro i fq H locs ls h1 h2 hw hl
      exfalso; omega
    | succ n ih =>
      intro i fq H locs ls h1 h2 hw hl
      refine sy_iload_n X d_E_init_181 hl 0 rfl ?_
      refine sy_iconst X d_E_init_182 ?_
      refine sy_icmp_ge (tgt := 205) X d_E_init_183 (by decide) ⟨by omega, by omega⟩ ⟨by decide, by decide⟩ (fun cc1 => ?_) (fun cc1 => ?_)
      · have hi : i = 3 := by omega
        subst hi
        exact tail x1 x2 x3 x4 com b0 b1 b2 t0 t1 t2 t3 u0 u1 u2 u3 a0 a1 a2 c0 c1 c2 fb fo fq wa wb H locs ls hw (lv_sub hl [1] rfl)
      · refine sy_aload_n X d_E_init_186 hl 1 rfl ?_
        refine sy_get (q0 := 0) (ci := 4) X hw rfl rfl ig_E (k := 3) (by decide) (tt_of k201 rfl) rfl d_E_init_187 ?_
        refine sy_iload_n X d_E_init_190 hl 0 rfl ?_
        refine hw_new (ci := 2) (fs := zQ) X hw ig_Q t_Q t_Q_ok (tt_of k62 rfl) (tt_of k64 rfl) (tt_of k44 rfl) rfl (fun j hj => by rcases (show j = 0 ∨ j = 1 ∨ j = 2 ∨ j = 3 ∨ j = 4 ∨ j = 5 ∨ j = 6 by omega) with rfl | rfl | rfl | rfl | rfl | rfl | rfl <;> rfl) (by show 266 + 1 * i + 1 ≤ 269; omega) (by show 909 + 7 * i + 7 ≤ 930; omega) d_E_init_191 (fun q H hw => ?_)
        refine sy_dup X d_E_init_194 rfl ?_
        refine call_IN (Xs := hdE cs h x1 x2 x3 x4 com b0 b1 b2 t0 t1 t2 t3 (pf fb 10) (pf fo 6) (pf fq i) ++ (((TT3 cs b0 b1 b2 t0 t1 t2 t3 u0 u1 u2 u3 a0 a1 a2 c0 c1 c2 ++ (List.range 10).flatMap (fun b => nB cs (fb b) (wa b) (wb b))) ++ (List.range 6).map (fun k => (fo k, .inr (1, zO)))) ++ (List.range i).map (fun k => (fq k, .inr (2, zQ))))) (rest := [.ref q, .int (iI ((i : Nat) : Int)), .ref x4]) X hz hz.2.1 (tt_of k67 rfl) (tt_of k44 rfl) (tt_of k66 rfl) rfl (by decide +kernel) (z_Q_init l D cs q) ⟨by decide, by decide⟩ hw hl.1 (Nat.le_of_ble_eq_true rfl) d_E_init_195 ⟨by show 266 + 1 * i + 1 + 0 ≤ 269; omega, by show 909 + 7 * i + 7 + 0 ≤ 930; omega⟩ (fun u H locs _ hw => ?_)
        refine hw_astq (q0 := 4) (qk := (hdE cs h x1 x2 x3 x4 com b0 b1 b2 t0 t1 t2 t3 (pf fb 10) (pf fo 6) (pf fq i) ++ (((TT3 cs b0 b1 b2 t0 t1 t2 t3 u0 u1 u2 u3 a0 a1 a2 c0 c1 c2 ++ (List.range 10).flatMap (fun b => nB cs (fb b) (wa b) (wb b))) ++ (List.range 6).map (fun k => (fo k, .inr (1, zO)))) ++ (List.range i).map (fun k => (fq k, .inr (2, zQ)))) : va_W).length) (ci := 2) (t0 := 4) X hw rfl rfl (by rw [List.getElem?_append_right (Nat.le_refl _), Nat.sub_self]; rfl) rfl i rfl (by omega) (by decide) d_E_init_198 (fun H locs hw => ?_)
        have hw : HW D A s.heap (hdE cs h x1 x2 x3 x4 com b0 b1 b2 t0 t1 t2 t3 (pf fb 10) (pf fo 6) (va_up (pf fq i) i (some q)) ++ (((( TT3 cs b0 b1 b2 t0 t1 t2 t3 u0 u1 u2 u3 a0 a1 a2 c0 c1 c2 ++ (List.range 10).flatMap (fun b => nB cs (fb b) (wa b) (wb b))) ++ (List.range 6).map (fun k => (fo k, .inr (1, zO)))) ++ (List.range i).map (fun k => (fq k, .inr (2, zQ)))) ++ [(q, .inr (2, zQ))])) H locs := hw
        rw [pf_up, List.append_assoc, map_up (fun k => k)] at hw
        refine sy_iinc (lv1 := [(1, .int (iI ((i + 1 : Nat) : Int))), (0, .ref h)]) X d_E_init_199 hl 0 rfl (by omega) (by decide) rfl (fun ls hl => ?_)
        refine sy_goto (tgt := 181) X d_E_init_202 (by decide) ?_
        refine W.widen (k := 266 + 1 * (i + 1)) (n := 909 + 7 * (i + 1)) (by show 266 + 1 * i + 1 + 0 ≤ _; omega) (by show 909 + 7 * i + 7 + 0 ≤ _; omega) ?_
        exact ih (i + 1) (upG fq i q) H locs ls (by omega) (by omega) hw hl
  have lp2 : ∀ (x1 x2 x3 x4 com b0 b1 b2 t0 t1 t2 t3 u0 u1 u2 u3 : Nat) (a0 a1 a2 c0 c1 c2 : Nat → Nat) (fb : Nat → Nat) (wa wb : Nat → Nat → Nat) (n : Nat) (i : Nat) (fo : Nat → Nat) (H : Heap) (locs : List Loc) (ls : Array Slot), i ≤ 6 → 6 < i + n → HW D A s.heap (hdE cs h x1 x2 x3 x4 com b0 b1 b2 t0 t1 t2 t3 (pf fb 10) (pf fo i) (fun _ => none) ++ ((TT3 cs b0 b1 b2 t0 t1 t2 t3 u0 u1 u2 u3 a0 a1 a2 c0 c1 c2 ++ (List.range 10).flatMap (fun b => nB cs (fb b) (wa b) (wb b))) ++ (List.range i).map (fun k => (fo k, .inr (1, zO))))) H locs → lv_has ls 2 [(1, .int (iI ((i : Nat) : Int))), (0, .ref h)] → W p l e (rmc 4 269 930) s m args below meth c H locs (260 + 1 * i) (873 + 6 * i) Q (F0 m 154 ls []) := by
    intro x1 x2 x3 x4 com b0 b1 b2 t0 t1 t2 t3 u0 u1 u2 u3 a0 a1 a2 c0 c1 c2 fb wa wb n
    induction n with
    | zero =>
      intro i fo H locs ls h1 h2 hw hl
      exfalso; omega
    | succ n ih =>
      intro i fo H locs ls h1 h2 hw hl
      refine sy_iload_n X d_E_init_154 hl 0 rfl ?_
      refine sy_bipush X d_E_init_155 (by decide) ?_
      refine sy_icmp_ge (tgt := 179) X d_E_init_157 (by decide) ⟨by omega, by omega⟩ ⟨by decide, by decide⟩ (fun cc1 => ?_) (fun cc1 => ?_)
      · have hi : i = 6 := by omega
        subst hi
        refine sy_iconst X d_E_init_179 ?_
        refine sy_istore_n (lv1 := [(1, .int (iI 0)), (0, .ref h)]) X d_E_init_180 hl rfl (by decide) rfl (fun ls hl => ?_)
        have hw : HW D A s.heap (hdE cs h x1 x2 x3 x4 com b0 b1 b2 t0 t1 t2 t3 (pf fb 10) (pf fo 6) (pf (fun _ => 0) 0) ++ (((TT3 cs b0 b1 b2 t0 t1 t2 t3 u0 u1 u2 u3 a0 a1 a2 c0 c1 c2 ++ (List.range 10).flatMap (fun b => nB cs (fb b) (wa b) (wb b))) ++ (List.range 6).map (fun k => (fo k, .inr (1, zO)))) ++ (List.range 0).map (fun k => ((fun _ => 0) k, .inr (2, zQ))))) H locs := by rw [pf_0]; simp only [List.range_zero, List.map_nil, List.append_nil]; exact hw
        exact lp3 x1 x2 x3 x4 com b0 b1 b2 t0 t1 t2 t3 u0 u1 u2 u3 a0 a1 a2 c0 c1 c2 fb fo wa wb 4 0 (fun _ => 0) H locs ls (by omega) (by omega) hw hl
      · refine sy_aload_n X d_E_init_160 hl 1 rfl ?_
        refine sy_get (q0 := 0) (ci := 4) X hw rfl rfl ig_E (k := 2) (by decide) (tt_of k200 rfl) rfl d_E_init_161 ?_
        refine sy_iload_n X d_E_init_164 hl 0 rfl ?_
        refine hw_new (ci := 1) (fs := zO) X hw ig_O t_O t_O_ok (tt_of k60 rfl) (tt_of k148 rfl) (tt_of k47 rfl) rfl (fun j hj => by rcases (show j = 0 ∨ j = 1 ∨ j = 2 ∨ j = 3 ∨ j = 4 ∨ j = 5 by omega) with rfl | rfl | rfl | rfl | rfl | rfl <;> rfl) (by show 260 + 1 * i + 1 ≤ 269; omega) (by show 873 + 6 * i + 6 ≤ 930; omega) d_E_init_165 (fun q H hw => ?_)
        refine sy_dup X d_E_init_168 rfl ?_
        refine call_IN (Xs := hdE cs h x1 x2 x3 x4 com b0 b1 b2 t0 t1 t2 t3 (pf fb 10) (pf fo i) (fun _ => none) ++ ((TT3 cs b0 b1 b2 t0 t1 t2 t3 u0 u1 u2 u3 a0 a1 a2 c0 c1 c2 ++ (List.range 10).flatMap (fun b => nB cs (fb b) (wa b) (wb b))) ++ (List.range i).map (fun k => (fo k, .inr (1, zO))))) (rest := [.ref q, .int (iI ((i : Nat) : Int)), .ref x3]) X hz hz.2.2.2.2.1 (tt_of k151 rfl) (tt_of k47 rfl) (tt_of k150 rfl) rfl (by decide +kernel) (z_O_init l D cs q) ⟨by decide, by decide⟩ hw hl.1 (Nat.le_of_ble_eq_true rfl) d_E_init_169 ⟨by show 260 + 1 * i + 1 + 0 ≤ 269; omega, by show 873 + 6 * i + 6 + 0 ≤ 930; omega⟩ (fun u H locs _ hw => ?_)
        refine hw_astq (q0 := 3) (qk := (hdE cs h x1 x2 x3 x4 com b0 b1 b2 t0 t1 t2 t3 (pf fb 10) (pf fo i) (fun _ => none) ++ ((TT3 cs b0 b1 b2 t0 t1 t2 t3 u0 u1 u2 u3 a0 a1 a2 c0 c1 c2 ++ (List.range 10).flatMap (fun b => nB cs (fb b) (wa b) (wb b))) ++ (List.range i).map (fun k => (fo k, .inr (1, zO)))) : va_W).length) (ci := 1) (t0 := 3) X hw rfl rfl (by rw [List.getElem?_append_right (Nat.le_refl _), Nat.sub_self]; rfl) rfl i rfl (by omega) (by decide) d_E_init_172 (fun H locs hw => ?_)
        have hw : HW D A s.heap (hdE cs h x1 x2 x3 x4 com b0 b1 b2 t0 t1 t2 t3 (pf fb 10) (va_up (pf fo i) i (some q)) (fun _ => none) ++ (((TT3 cs b0 b1 b2 t0 t1 t2 t3 u0 u1 u2 u3 a0 a1 a2 c0 c1 c2 ++ (List.range 10).flatMap (fun b => nB cs (fb b) (wa b) (wb b))) ++ (List.range i).map (fun k => (fo k, .inr (1, zO)))) ++ [(q, .inr (1, zO))])) H locs := hw
        rw [pf_up, List.append_assoc, map_up (fun k => k)] at hw
        refine sy_iinc (lv1 := [(1, .int (iI ((i + 1 : Nat) : Int))), (0, .ref h)]) X d_E_init_173 hl 0 rfl (by omega) (by decide) rfl (fun ls hl => ?_)
        refine sy_goto (tgt := 154) X d_E_init_176 (by decide) ?_
        refine W.widen (k := 260 + 1 * (i + 1)) (n := 873 + 6 * (i + 1)) (by show 260 + 1 * i + 1 + 0 ≤ _; omega) (by show 873 + 6 * i + 6 + 0 ≤ _; omega) ?_
        exact ih (i + 1) (upG fo i q) H locs ls (by omega) (by omega) hw hl
  have lp1 : ∀ (x1 x2 x3 x4 com b0 b1 b2 t0 t1 t2 t3 u0 u1 u2 u3 : Nat) (a0 a1 a2 c0 c1 c2 : Nat → Nat)  (n : Nat) (i : Nat) (fb : Nat → Nat) (wa wb : Nat → Nat → Nat) (H : Heap) (locs : List Loc) (ls : Array Slot), i ≤ 10 → 10 < i + n → HW D A s.heap (hdE cs h x1 x2 x3 x4 com b0 b1 b2 t0 t1 t2 t3 (pf fb i) (fun _ => none) (fun _ => none) ++ (TT3 cs b0 b1 b2 t0 t1 t2 t3 u0 u1 u2 u3 a0 a1 a2 c0 c1 c2 ++ (List.range i).flatMap (fun b => nB cs (fb b) (wa b) (wb b)))) H locs → lv_has ls 2 [(1, .int (iI ((i : Nat) : Int))), (0, .ref h)] → W p l e (rmc 4 269 930) s m args below meth c H locs (70 + 19 * i) (243 + 63 * i) Q (F0 m 127 ls []) := by
    intro x1 x2 x3 x4 com b0 b1 b2 t0 t1 t2 t3 u0 u1 u2 u3 a0 a1 a2 c0 c1 c2  n
    induction n with
    | zero =>
      intro i fb wa wb H locs ls h1 h2 hw hl
      exfalso; omega
    | succ n ih =>
      intro i fb wa wb H locs ls h1 h2 hw hl
      refine sy_iload_n X d_E_init_127 hl 0 rfl ?_
      refine sy_bipush X d_E_init_128 (by decide) ?_
      refine sy_icmp_ge (tgt := 152) X d_E_init_130 (by decide) ⟨by omega, by omega⟩ ⟨by decide, by decide⟩ (fun cc1 => ?_) (fun cc1 => ?_)
      · have hi : i = 10 := by omega
        subst hi
        refine sy_iconst X d_E_init_152 ?_
        refine sy_istore_n (lv1 := [(1, .int (iI 0)), (0, .ref h)]) X d_E_init_153 hl rfl (by decide) rfl (fun ls hl => ?_)
        have hw : HW D A s.heap (hdE cs h x1 x2 x3 x4 com b0 b1 b2 t0 t1 t2 t3 (pf fb 10) (pf (fun _ => 0) 0) (fun _ => none) ++ ((TT3 cs b0 b1 b2 t0 t1 t2 t3 u0 u1 u2 u3 a0 a1 a2 c0 c1 c2 ++ (List.range 10).flatMap (fun b => nB cs (fb b) (wa b) (wb b))) ++ (List.range 0).map (fun k => ((fun _ => 0) k, .inr (1, zO))))) H locs := by rw [pf_0]; simp only [List.range_zero, List.map_nil, List.append_nil]; exact hw
        exact lp2 x1 x2 x3 x4 com b0 b1 b2 t0 t1 t2 t3 u0 u1 u2 u3 a0 a1 a2 c0 c1 c2 fb wa wb 7 0 (fun _ => 0) H locs ls (by omega) (by omega) hw hl
      · refine sy_aload_n X d_E_init_133 hl 1 rfl ?_
        refine sy_get (q0 := 0) (ci := 4) X hw rfl rfl ig_E (k := 0) (by decide) (tt_of k198 rfl) rfl d_E_init_134 ?_
        refine sy_iload_n X d_E_init_137 hl 0 rfl ?_
        refine hw_new (ci := 0) (fs := [.null, .null, .null, .null, .null, .null, .null, .null, .null]) X hw ig_B t_B t_B_ok (tt_of k58 rfl) (tt_of k99 rfl) (tt_of k45 rfl) rfl (fun j hj => by rcases (show j = 0 ∨ j = 1 ∨ j = 2 ∨ j = 3 ∨ j = 4 ∨ j = 5 ∨ j = 6 ∨ j = 7 ∨ j = 8 by omega) with rfl | rfl | rfl | rfl | rfl | rfl | rfl | rfl | rfl <;> rfl) (by show 70 + 19 * i + 1 ≤ 269; omega) (by show 243 + 63 * i + 9 ≤ 930; omega) d_E_init_138 (fun q H hw => ?_)
        refine sy_dup X d_E_init_141 rfl ?_
        refine call_IN (Xs := hdE cs h x1 x2 x3 x4 com b0 b1 b2 t0 t1 t2 t3 (pf fb i) (fun _ => none) (fun _ => none) ++ (TT3 cs b0 b1 b2 t0 t1 t2 t3 u0 u1 u2 u3 a0 a1 a2 c0 c1 c2 ++ (List.range i).flatMap (fun b => nB cs (fb b) (wa b) (wb b)))) (rest := [.ref q, .int (iI ((i : Nat) : Int)), .ref x1]) X hz hz.2.2.1 (tt_of k102 rfl) (tt_of k45 rfl) (tt_of k101 rfl) rfl (by decide +kernel) (z_B_init l D cs q) ⟨by decide, by decide⟩ hw hl.1 (Nat.le_of_ble_eq_true rfl) d_E_init_142 ⟨by show 70 + 19 * i + 1 + 18 ≤ 269; omega, by show 243 + 63 * i + 9 + 54 ≤ 930; omega⟩ (fun u H locs _ hw => ?_)
        refine hw_astq (q0 := 1) (qk := (hdE cs h x1 x2 x3 x4 com b0 b1 b2 t0 t1 t2 t3 (pf fb i) (fun _ => none) (fun _ => none) ++ (TT3 cs b0 b1 b2 t0 t1 t2 t3 u0 u1 u2 u3 a0 a1 a2 c0 c1 c2 ++ (List.range i).flatMap (fun b => nB cs (fb b) (wa b) (wb b))) : va_W).length) (ci := 0) (t0 := 2) X hw rfl rfl (by rw [List.getElem?_append_right (Nat.le_refl _), Nat.sub_self]; rfl) rfl i rfl (by omega) (by decide) d_E_init_145 (fun H locs hw => ?_)
        have hw : HW D A s.heap (hdE cs h x1 x2 x3 x4 com b0 b1 b2 t0 t1 t2 t3 (va_up (pf fb i) i (some q)) (fun _ => none) (fun _ => none) ++ ((TT3 cs b0 b1 b2 t0 t1 t2 t3 u0 u1 u2 u3 a0 a1 a2 c0 c1 c2 ++ (List.range i).flatMap (fun b => nB cs (fb b) (wa b) (wb b))) ++ nB cs q u.1 u.2)) H locs := hw
        rw [pf_up, List.append_assoc, flat_up] at hw
        refine sy_iinc (lv1 := [(1, .int (iI ((i + 1 : Nat) : Int))), (0, .ref h)]) X d_E_init_146 hl 0 rfl (by omega) (by decide) rfl (fun ls hl => ?_)
        refine sy_goto (tgt := 127) X d_E_init_149 (by decide) ?_
        refine W.widen (k := 70 + 19 * (i + 1)) (n := 243 + 63 * (i + 1)) (by show 70 + 19 * i + 1 + 18 ≤ _; omega) (by show 243 + 63 * i + 9 + 54 ≤ _; omega) ?_
        exact ih (i + 1) (upG fb i q) (upG wa i u.1) (upG wb i u.2) H locs ls (by omega) (by omega) hw hl
  refine sy_aload_n X d_E_init_0 hl 0 rfl ?_
  refine hw_obj X (tt_of k55 rfl) hl.1 (by decide) (by decide) d_E_init_1 ?_
  refine sy_aload_n X d_E_init_4 hl 0 rfl ?_
  refine sy_bipush X d_E_init_5 (by decide) ?_
  refine hw_newq X hw 10 2 rfl hz.1.1 (tt_of k58 rfl) rfl (by decide) (by decide) (by decide) d_E_init_7 (fun x1 H hw => ?_)
  refine hw_putF (ci := 4) (q0 := 0) (k := 0) (ty := .array (.object "ExactEstimates$Belief")) X hw ig_E t_E t_E_ok n_E rfl rfl (by decide) (tt_of k198 rfl) rfl hnm rfl (by decide +kernel) rfl rfl (Nat.le_of_ble_eq_true rfl) d_E_init_10 (fun H locs hw => ?_)
  have hw : HW D A s.heap ((h, .inr (4, [.ref x1, .null, .null, .null, .null, .int 0, .int 0, .null, .null, .null, .null, .null, .null, .null])) :: ([(x1, arq (cs 2) 10 (fun _ => none))])) H locs := hw
  refine sy_aload_n X d_E_init_13 hl 0 rfl ?_
  refine sy_iconst X d_E_init_14 ?_
  refine hw_newi X hw 4 rfl (by decide) (by decide) (by decide) d_E_init_15 (fun x2 H hw => ?_)
  refine hw_putF (ci := 4) (q0 := 0) (k := 1) (ty := .array .int) X hw ig_E t_E t_E_ok n_E rfl rfl (by decide) (tt_of k199 rfl) rfl hnm rfl (by decide +kernel) rfl rfl (Nat.le_of_ble_eq_true rfl) d_E_init_17 (fun H locs hw => ?_)
  have hw : HW D A s.heap ((h, .inr (4, [.ref x1, .ref x2, .null, .null, .null, .int 0, .int 0, .null, .null, .null, .null, .null, .null, .null])) :: ([(x1, arq (cs 2) 10 (fun _ => none)), (x2, ar (cs 0) 4 (fun _ => 0))])) H locs := hw
  refine sy_aload_n X d_E_init_20 hl 0 rfl ?_
  refine sy_bipush X d_E_init_21 (by decide) ?_
  refine hw_newq X hw 6 3 rfl hz.1.2.1 (tt_of k60 rfl) rfl (by decide) (by decide) (by decide) d_E_init_23 (fun x3 H hw => ?_)
  refine hw_putF (ci := 4) (q0 := 0) (k := 2) (ty := .array (.object "ExactEstimates$Observation")) X hw ig_E t_E t_E_ok n_E rfl rfl (by decide) (tt_of k200 rfl) rfl hnm rfl (by decide +kernel) rfl rfl (Nat.le_of_ble_eq_true rfl) d_E_init_26 (fun H locs hw => ?_)
  have hw : HW D A s.heap ((h, .inr (4, [.ref x1, .ref x2, .ref x3, .null, .null, .int 0, .int 0, .null, .null, .null, .null, .null, .null, .null])) :: ([(x1, arq (cs 2) 10 (fun _ => none)), (x2, ar (cs 0) 4 (fun _ => 0)), (x3, arq (cs 3) 6 (fun _ => none))])) H locs := hw
  refine sy_aload_n X d_E_init_29 hl 0 rfl ?_
  refine sy_iconst X d_E_init_30 ?_
  refine hw_newq X hw 3 4 rfl hz.1.2.2 (tt_of k62 rfl) rfl (by decide) (by decide) (by decide) d_E_init_31 (fun x4 H hw => ?_)
  refine hw_putF (ci := 4) (q0 := 0) (k := 3) (ty := .array (.object "ExactEstimates$Passage")) X hw ig_E t_E t_E_ok n_E rfl rfl (by decide) (tt_of k201 rfl) rfl hnm rfl (by decide +kernel) rfl rfl (Nat.le_of_ble_eq_true rfl) d_E_init_34 (fun H locs hw => ?_)
  have hw : HW D A s.heap ((h, .inr (4, [.ref x1, .ref x2, .ref x3, .ref x4, .null, .int 0, .int 0, .null, .null, .null, .null, .null, .null, .null])) :: ([(x1, arq (cs 2) 10 (fun _ => none)), (x2, ar (cs 0) 4 (fun _ => 0)), (x3, arq (cs 3) 6 (fun _ => none)), (x4, arq (cs 4) 3 (fun _ => none))])) H locs := hw
  refine sy_aload_n X d_E_init_37 hl 0 rfl ?_
  refine hw_new (ci := 2) (fs := zQ) X hw ig_Q t_Q t_Q_ok (tt_of k62 rfl) (tt_of k64 rfl) (tt_of k44 rfl) rfl (fun j hj => by rcases (show j = 0 ∨ j = 1 ∨ j = 2 ∨ j = 3 ∨ j = 4 ∨ j = 5 ∨ j = 6 by omega) with rfl | rfl | rfl | rfl | rfl | rfl | rfl <;> rfl) (by decide) (by decide) d_E_init_38 (fun com H hw => ?_)
  refine sy_dup X d_E_init_41 rfl ?_
  refine call_IN (Xs := (h, .inr (4, [.ref x1, .ref x2, .ref x3, .ref x4, .null, .int 0, .int 0, .null, .null, .null, .null, .null, .null, .null])) :: ([(x1, arq (cs 2) 10 (fun _ => none)), (x2, ar (cs 0) 4 (fun _ => 0)), (x3, arq (cs 3) 6 (fun _ => none)), (x4, arq (cs 4) 3 (fun _ => none))])) (rest := [.ref com, .ref h]) X hz hz.2.1 (tt_of k67 rfl) (tt_of k44 rfl) (tt_of k66 rfl) rfl (by decide +kernel) (z_Q_init l D cs com) ⟨by decide, by decide⟩ hw hl.1 (Nat.le_of_ble_eq_true rfl) d_E_init_42 ⟨by decide, by decide⟩ (fun _ H locs _ hw => ?_)
  refine hw_putF (ci := 4) (q0 := 0) (k := 4) (ty := .object "ExactEstimates$Passage") X hw ig_E t_E t_E_ok n_E rfl rfl (by decide) (tt_of k202 rfl) rfl hnm rfl (by decide +kernel) rfl rfl (Nat.le_of_ble_eq_true rfl) d_E_init_45 (fun H locs hw => ?_)
  have hw : HW D A s.heap ((h, .inr (4, [.ref x1, .ref x2, .ref x3, .ref x4, .ref com, .int 0, .int 0, .null, .null, .null, .null, .null, .null, .null])) :: ([(x1, arq (cs 2) 10 (fun _ => none)), (x2, ar (cs 0) 4 (fun _ => 0)), (x3, arq (cs 3) 6 (fun _ => none)), (x4, arq (cs 4) 3 (fun _ => none)), (com, .inr (2, zQ))])) H locs := hw
  refine sy_aload_n X d_E_init_48 hl 0 rfl ?_
  refine hw_new (ci := 0) (fs := [.null, .null, .null, .null, .null, .null, .null, .null, .null]) X hw ig_B t_B t_B_ok (tt_of k58 rfl) (tt_of k99 rfl) (tt_of k45 rfl) rfl (fun j hj => by rcases (show j = 0 ∨ j = 1 ∨ j = 2 ∨ j = 3 ∨ j = 4 ∨ j = 5 ∨ j = 6 ∨ j = 7 ∨ j = 8 by omega) with rfl | rfl | rfl | rfl | rfl | rfl | rfl | rfl | rfl <;> rfl) (by decide) (by decide) d_E_init_49 (fun b0 H hw => ?_)
  refine sy_dup X d_E_init_52 rfl ?_
  refine call_IN (Xs := (h, .inr (4, [.ref x1, .ref x2, .ref x3, .ref x4, .ref com, .int 0, .int 0, .null, .null, .null, .null, .null, .null, .null])) :: ([(x1, arq (cs 2) 10 (fun _ => none)), (x2, ar (cs 0) 4 (fun _ => 0)), (x3, arq (cs 3) 6 (fun _ => none)), (x4, arq (cs 4) 3 (fun _ => none)), (com, .inr (2, zQ))])) (rest := [.ref b0, .ref h]) X hz hz.2.2.1 (tt_of k102 rfl) (tt_of k45 rfl) (tt_of k101 rfl) rfl (by decide +kernel) (z_B_init l D cs b0) ⟨by decide, by decide⟩ hw hl.1 (Nat.le_of_ble_eq_true rfl) d_E_init_53 ⟨by decide, by decide⟩ (fun v0 H locs _ hw => ?_)
  refine hw_putF (ci := 4) (q0 := 0) (k := 7) (ty := .object "ExactEstimates$Belief") X hw ig_E t_E t_E_ok n_E rfl rfl (by decide) (tt_of k205 rfl) rfl hnm rfl (by decide +kernel) rfl rfl (Nat.le_of_ble_eq_true rfl) d_E_init_56 (fun H locs hw => ?_)
  have hw : HW D A s.heap ((h, .inr (4, [.ref x1, .ref x2, .ref x3, .ref x4, .ref com, .int 0, .int 0, .ref b0, .null, .null, .null, .null, .null, .null])) :: (([(x1, arq (cs 2) 10 (fun _ => none)), (x2, ar (cs 0) 4 (fun _ => 0)), (x3, arq (cs 3) 6 (fun _ => none)), (x4, arq (cs 4) 3 (fun _ => none)), (com, .inr (2, zQ))] ++ nB cs b0 v0.1 v0.2))) H locs := hw
  refine sy_aload_n X d_E_init_59 hl 0 rfl ?_
  refine hw_new (ci := 0) (fs := [.null, .null, .null, .null, .null, .null, .null, .null, .null]) X hw ig_B t_B t_B_ok (tt_of k58 rfl) (tt_of k99 rfl) (tt_of k45 rfl) rfl (fun j hj => by rcases (show j = 0 ∨ j = 1 ∨ j = 2 ∨ j = 3 ∨ j = 4 ∨ j = 5 ∨ j = 6 ∨ j = 7 ∨ j = 8 by omega) with rfl | rfl | rfl | rfl | rfl | rfl | rfl | rfl | rfl <;> rfl) (by decide) (by decide) d_E_init_60 (fun b1 H hw => ?_)
  refine sy_dup X d_E_init_63 rfl ?_
  refine call_IN (Xs := (h, .inr (4, [.ref x1, .ref x2, .ref x3, .ref x4, .ref com, .int 0, .int 0, .ref b0, .null, .null, .null, .null, .null, .null])) :: (([(x1, arq (cs 2) 10 (fun _ => none)), (x2, ar (cs 0) 4 (fun _ => 0)), (x3, arq (cs 3) 6 (fun _ => none)), (x4, arq (cs 4) 3 (fun _ => none)), (com, .inr (2, zQ))] ++ nB cs b0 v0.1 v0.2))) (rest := [.ref b1, .ref h]) X hz hz.2.2.1 (tt_of k102 rfl) (tt_of k45 rfl) (tt_of k101 rfl) rfl (by decide +kernel) (z_B_init l D cs b1) ⟨by decide, by decide⟩ hw hl.1 (Nat.le_of_ble_eq_true rfl) d_E_init_64 ⟨by decide, by decide⟩ (fun v1 H locs _ hw => ?_)
  refine hw_putF (ci := 4) (q0 := 0) (k := 8) (ty := .object "ExactEstimates$Belief") X hw ig_E t_E t_E_ok n_E rfl rfl (by decide) (tt_of k206 rfl) rfl hnm rfl (by decide +kernel) rfl rfl (Nat.le_of_ble_eq_true rfl) d_E_init_67 (fun H locs hw => ?_)
  have hw : HW D A s.heap ((h, .inr (4, [.ref x1, .ref x2, .ref x3, .ref x4, .ref com, .int 0, .int 0, .ref b0, .ref b1, .null, .null, .null, .null, .null])) :: ((([(x1, arq (cs 2) 10 (fun _ => none)), (x2, ar (cs 0) 4 (fun _ => 0)), (x3, arq (cs 3) 6 (fun _ => none)), (x4, arq (cs 4) 3 (fun _ => none)), (com, .inr (2, zQ))] ++ nB cs b0 v0.1 v0.2) ++ nB cs b1 v1.1 v1.2))) H locs := hw
  refine sy_aload_n X d_E_init_70 hl 0 rfl ?_
  refine hw_new (ci := 0) (fs := [.null, .null, .null, .null, .null, .null, .null, .null, .null]) X hw ig_B t_B t_B_ok (tt_of k58 rfl) (tt_of k99 rfl) (tt_of k45 rfl) rfl (fun j hj => by rcases (show j = 0 ∨ j = 1 ∨ j = 2 ∨ j = 3 ∨ j = 4 ∨ j = 5 ∨ j = 6 ∨ j = 7 ∨ j = 8 by omega) with rfl | rfl | rfl | rfl | rfl | rfl | rfl | rfl | rfl <;> rfl) (by decide) (by decide) d_E_init_71 (fun b2 H hw => ?_)
  refine sy_dup X d_E_init_74 rfl ?_
  refine call_IN (Xs := (h, .inr (4, [.ref x1, .ref x2, .ref x3, .ref x4, .ref com, .int 0, .int 0, .ref b0, .ref b1, .null, .null, .null, .null, .null])) :: ((([(x1, arq (cs 2) 10 (fun _ => none)), (x2, ar (cs 0) 4 (fun _ => 0)), (x3, arq (cs 3) 6 (fun _ => none)), (x4, arq (cs 4) 3 (fun _ => none)), (com, .inr (2, zQ))] ++ nB cs b0 v0.1 v0.2) ++ nB cs b1 v1.1 v1.2))) (rest := [.ref b2, .ref h]) X hz hz.2.2.1 (tt_of k102 rfl) (tt_of k45 rfl) (tt_of k101 rfl) rfl (by decide +kernel) (z_B_init l D cs b2) ⟨by decide, by decide⟩ hw hl.1 (Nat.le_of_ble_eq_true rfl) d_E_init_75 ⟨by decide, by decide⟩ (fun v2 H locs _ hw => ?_)
  refine hw_putF (ci := 4) (q0 := 0) (k := 9) (ty := .object "ExactEstimates$Belief") X hw ig_E t_E t_E_ok n_E rfl rfl (by decide) (tt_of k207 rfl) rfl hnm rfl (by decide +kernel) rfl rfl (Nat.le_of_ble_eq_true rfl) d_E_init_78 (fun H locs hw => ?_)
  have hw : HW D A s.heap ((h, .inr (4, [.ref x1, .ref x2, .ref x3, .ref x4, .ref com, .int 0, .int 0, .ref b0, .ref b1, .ref b2, .null, .null, .null, .null])) :: (((([(x1, arq (cs 2) 10 (fun _ => none)), (x2, ar (cs 0) 4 (fun _ => 0)), (x3, arq (cs 3) 6 (fun _ => none)), (x4, arq (cs 4) 3 (fun _ => none)), (com, .inr (2, zQ))] ++ nB cs b0 v0.1 v0.2) ++ nB cs b1 v1.1 v1.2) ++ nB cs b2 v2.1 v2.2))) H locs := hw
  refine sy_aload_n X d_E_init_81 hl 0 rfl ?_
  refine hw_new (ci := 3) (fs := [.null]) X hw ig_W t_W t_W_ok (tt_of k146 rfl) (tt_of k105 rfl) (tt_of k46 rfl) rfl (fun j hj => by rcases (show j = 0 by omega) with rfl <;> rfl) (by decide) (by decide) d_E_init_82 (fun t0 H hw => ?_)
  refine sy_dup X d_E_init_85 rfl ?_
  refine call_IN (Xs := (h, .inr (4, [.ref x1, .ref x2, .ref x3, .ref x4, .ref com, .int 0, .int 0, .ref b0, .ref b1, .ref b2, .null, .null, .null, .null])) :: (((([(x1, arq (cs 2) 10 (fun _ => none)), (x2, ar (cs 0) 4 (fun _ => 0)), (x3, arq (cs 3) 6 (fun _ => none)), (x4, arq (cs 4) 3 (fun _ => none)), (com, .inr (2, zQ))] ++ nB cs b0 v0.1 v0.2) ++ nB cs b1 v1.1 v1.2) ++ nB cs b2 v2.1 v2.2))) (rest := [.ref t0, .ref h]) X hz hz.2.2.2.1 (tt_of k108 rfl) (tt_of k46 rfl) (tt_of k107 rfl) rfl (by decide +kernel) (z_W_init l D cs t0) ⟨by decide, by decide⟩ hw hl.1 (Nat.le_of_ble_eq_true rfl) d_E_init_86 ⟨by decide, by decide⟩ (fun u0 H locs _ hw => ?_)
  refine hw_putF (ci := 4) (q0 := 0) (k := 10) (ty := .object "ExactEstimates$Whole") X hw ig_E t_E t_E_ok n_E rfl rfl (by decide) (tt_of k208 rfl) rfl hnm rfl (by decide +kernel) rfl rfl (Nat.le_of_ble_eq_true rfl) d_E_init_89 (fun H locs hw => ?_)
  have hw : HW D A s.heap ((h, .inr (4, [.ref x1, .ref x2, .ref x3, .ref x4, .ref com, .int 0, .int 0, .ref b0, .ref b1, .ref b2, .ref t0, .null, .null, .null])) :: ((((([(x1, arq (cs 2) 10 (fun _ => none)), (x2, ar (cs 0) 4 (fun _ => 0)), (x3, arq (cs 3) 6 (fun _ => none)), (x4, arq (cs 4) 3 (fun _ => none)), (com, .inr (2, zQ))] ++ nB cs b0 v0.1 v0.2) ++ nB cs b1 v1.1 v1.2) ++ nB cs b2 v2.1 v2.2) ++ oW cs t0 u0))) H locs := hw
  refine sy_aload_n X d_E_init_92 hl 0 rfl ?_
  refine hw_new (ci := 3) (fs := [.null]) X hw ig_W t_W t_W_ok (tt_of k146 rfl) (tt_of k105 rfl) (tt_of k46 rfl) rfl (fun j hj => by rcases (show j = 0 by omega) with rfl <;> rfl) (by decide) (by decide) d_E_init_93 (fun t1 H hw => ?_)
  refine sy_dup X d_E_init_96 rfl ?_
  refine call_IN (Xs := (h, .inr (4, [.ref x1, .ref x2, .ref x3, .ref x4, .ref com, .int 0, .int 0, .ref b0, .ref b1, .ref b2, .ref t0, .null, .null, .null])) :: ((((([(x1, arq (cs 2) 10 (fun _ => none)), (x2, ar (cs 0) 4 (fun _ => 0)), (x3, arq (cs 3) 6 (fun _ => none)), (x4, arq (cs 4) 3 (fun _ => none)), (com, .inr (2, zQ))] ++ nB cs b0 v0.1 v0.2) ++ nB cs b1 v1.1 v1.2) ++ nB cs b2 v2.1 v2.2) ++ oW cs t0 u0))) (rest := [.ref t1, .ref h]) X hz hz.2.2.2.1 (tt_of k108 rfl) (tt_of k46 rfl) (tt_of k107 rfl) rfl (by decide +kernel) (z_W_init l D cs t1) ⟨by decide, by decide⟩ hw hl.1 (Nat.le_of_ble_eq_true rfl) d_E_init_97 ⟨by decide, by decide⟩ (fun u1 H locs _ hw => ?_)
  refine hw_putF (ci := 4) (q0 := 0) (k := 11) (ty := .object "ExactEstimates$Whole") X hw ig_E t_E t_E_ok n_E rfl rfl (by decide) (tt_of k209 rfl) rfl hnm rfl (by decide +kernel) rfl rfl (Nat.le_of_ble_eq_true rfl) d_E_init_100 (fun H locs hw => ?_)
  have hw : HW D A s.heap ((h, .inr (4, [.ref x1, .ref x2, .ref x3, .ref x4, .ref com, .int 0, .int 0, .ref b0, .ref b1, .ref b2, .ref t0, .ref t1, .null, .null])) :: (((((([(x1, arq (cs 2) 10 (fun _ => none)), (x2, ar (cs 0) 4 (fun _ => 0)), (x3, arq (cs 3) 6 (fun _ => none)), (x4, arq (cs 4) 3 (fun _ => none)), (com, .inr (2, zQ))] ++ nB cs b0 v0.1 v0.2) ++ nB cs b1 v1.1 v1.2) ++ nB cs b2 v2.1 v2.2) ++ oW cs t0 u0) ++ oW cs t1 u1))) H locs := hw
  refine sy_aload_n X d_E_init_103 hl 0 rfl ?_
  refine hw_new (ci := 3) (fs := [.null]) X hw ig_W t_W t_W_ok (tt_of k146 rfl) (tt_of k105 rfl) (tt_of k46 rfl) rfl (fun j hj => by rcases (show j = 0 by omega) with rfl <;> rfl) (by decide) (by decide) d_E_init_104 (fun t2 H hw => ?_)
  refine sy_dup X d_E_init_107 rfl ?_
  refine call_IN (Xs := (h, .inr (4, [.ref x1, .ref x2, .ref x3, .ref x4, .ref com, .int 0, .int 0, .ref b0, .ref b1, .ref b2, .ref t0, .ref t1, .null, .null])) :: (((((([(x1, arq (cs 2) 10 (fun _ => none)), (x2, ar (cs 0) 4 (fun _ => 0)), (x3, arq (cs 3) 6 (fun _ => none)), (x4, arq (cs 4) 3 (fun _ => none)), (com, .inr (2, zQ))] ++ nB cs b0 v0.1 v0.2) ++ nB cs b1 v1.1 v1.2) ++ nB cs b2 v2.1 v2.2) ++ oW cs t0 u0) ++ oW cs t1 u1))) (rest := [.ref t2, .ref h]) X hz hz.2.2.2.1 (tt_of k108 rfl) (tt_of k46 rfl) (tt_of k107 rfl) rfl (by decide +kernel) (z_W_init l D cs t2) ⟨by decide, by decide⟩ hw hl.1 (Nat.le_of_ble_eq_true rfl) d_E_init_108 ⟨by decide, by decide⟩ (fun u2 H locs _ hw => ?_)
  refine hw_putF (ci := 4) (q0 := 0) (k := 12) (ty := .object "ExactEstimates$Whole") X hw ig_E t_E t_E_ok n_E rfl rfl (by decide) (tt_of k210 rfl) rfl hnm rfl (by decide +kernel) rfl rfl (Nat.le_of_ble_eq_true rfl) d_E_init_111 (fun H locs hw => ?_)
  have hw : HW D A s.heap ((h, .inr (4, [.ref x1, .ref x2, .ref x3, .ref x4, .ref com, .int 0, .int 0, .ref b0, .ref b1, .ref b2, .ref t0, .ref t1, .ref t2, .null])) :: ((((((([(x1, arq (cs 2) 10 (fun _ => none)), (x2, ar (cs 0) 4 (fun _ => 0)), (x3, arq (cs 3) 6 (fun _ => none)), (x4, arq (cs 4) 3 (fun _ => none)), (com, .inr (2, zQ))] ++ nB cs b0 v0.1 v0.2) ++ nB cs b1 v1.1 v1.2) ++ nB cs b2 v2.1 v2.2) ++ oW cs t0 u0) ++ oW cs t1 u1) ++ oW cs t2 u2))) H locs := hw
  refine sy_aload_n X d_E_init_114 hl 0 rfl ?_
  refine hw_new (ci := 3) (fs := [.null]) X hw ig_W t_W t_W_ok (tt_of k146 rfl) (tt_of k105 rfl) (tt_of k46 rfl) rfl (fun j hj => by rcases (show j = 0 by omega) with rfl <;> rfl) (by decide) (by decide) d_E_init_115 (fun t3 H hw => ?_)
  refine sy_dup X d_E_init_118 rfl ?_
  refine call_IN (Xs := (h, .inr (4, [.ref x1, .ref x2, .ref x3, .ref x4, .ref com, .int 0, .int 0, .ref b0, .ref b1, .ref b2, .ref t0, .ref t1, .ref t2, .null])) :: ((((((([(x1, arq (cs 2) 10 (fun _ => none)), (x2, ar (cs 0) 4 (fun _ => 0)), (x3, arq (cs 3) 6 (fun _ => none)), (x4, arq (cs 4) 3 (fun _ => none)), (com, .inr (2, zQ))] ++ nB cs b0 v0.1 v0.2) ++ nB cs b1 v1.1 v1.2) ++ nB cs b2 v2.1 v2.2) ++ oW cs t0 u0) ++ oW cs t1 u1) ++ oW cs t2 u2))) (rest := [.ref t3, .ref h]) X hz hz.2.2.2.1 (tt_of k108 rfl) (tt_of k46 rfl) (tt_of k107 rfl) rfl (by decide +kernel) (z_W_init l D cs t3) ⟨by decide, by decide⟩ hw hl.1 (Nat.le_of_ble_eq_true rfl) d_E_init_119 ⟨by decide, by decide⟩ (fun u3 H locs _ hw => ?_)
  refine hw_putF (ci := 4) (q0 := 0) (k := 13) (ty := .object "ExactEstimates$Whole") X hw ig_E t_E t_E_ok n_E rfl rfl (by decide) (tt_of k211 rfl) rfl hnm rfl (by decide +kernel) rfl rfl (Nat.le_of_ble_eq_true rfl) d_E_init_122 (fun H locs hw => ?_)
  have hw : HW D A s.heap ((h, .inr (4, [.ref x1, .ref x2, .ref x3, .ref x4, .ref com, .int 0, .int 0, .ref b0, .ref b1, .ref b2, .ref t0, .ref t1, .ref t2, .ref t3])) :: (((((((([(x1, arq (cs 2) 10 (fun _ => none)), (x2, ar (cs 0) 4 (fun _ => 0)), (x3, arq (cs 3) 6 (fun _ => none)), (x4, arq (cs 4) 3 (fun _ => none)), (com, .inr (2, zQ))] ++ nB cs b0 v0.1 v0.2) ++ nB cs b1 v1.1 v1.2) ++ nB cs b2 v2.1 v2.2) ++ oW cs t0 u0) ++ oW cs t1 u1) ++ oW cs t2 u2) ++ oW cs t3 u3))) H locs := hw
  refine sy_iconst X d_E_init_125 ?_
  refine sy_istore_n (lv1 := [(1, .int (iI 0)), (0, .ref h)]) X d_E_init_126 hl rfl (by decide) rfl (fun ls hl => ?_)
  have ew : (h, .inr (4, [.ref x1, .ref x2, .ref x3, .ref x4, .ref com, .int 0, .int 0, .ref b0, .ref b1, .ref b2, .ref t0, .ref t1, .ref t2, .ref t3])) :: (((((((([(x1, arq (cs 2) 10 (fun _ => none)), (x2, ar (cs 0) 4 (fun _ => 0)), (x3, arq (cs 3) 6 (fun _ => none)), (x4, arq (cs 4) 3 (fun _ => none)), (com, .inr (2, zQ))] ++ nB cs b0 v0.1 v0.2) ++ nB cs b1 v1.1 v1.2) ++ nB cs b2 v2.1 v2.2) ++ oW cs t0 u0) ++ oW cs t1 u1) ++ oW cs t2 u2) ++ oW cs t3 u3)) = hdE cs h x1 x2 x3 x4 com b0 b1 b2 t0 t1 t2 t3 (pf (fun _ => 0) 0) (fun _ => none) (fun _ => none) ++ (TT3 cs b0 b1 b2 t0 t1 t2 t3 u0 u1 u2 u3 v0.1 v1.1 v2.1 v0.2 v1.2 v2.2 ++ (List.range 0).flatMap (fun b => nB cs ((fun _ => 0) b) ((fun _ _ => 0) b) ((fun _ _ => 0) b))) := by
    rw [pf_0]
    simp only [List.range_zero, List.flatMap_nil, List.append_nil, TT3]
    have e4 : (List.range 4).flatMap (fun k => oW cs (l9 t0 t1 t2 t3 0 0 0 0 0 k) (l9 u0 u1 u2 u3 0 0 0 0 0 k)) = oW cs t0 u0 ++ (oW cs t1 u1 ++ (oW cs t2 u2 ++ oW cs t3 u3)) := rfl
    rw [e4]
    simp only [List.append_assoc]
    rfl
  rw [ew] at hw
  exact lp1 x1 x2 x3 x4 com b0 b1 b2 t0 t1 t2 t3 u0 u1 u2 u3 v0.1 v1.1 v2.1 v0.2 v1.2 v2.2 11 0 (fun _ => 0) (fun _ _ => 0) (fun _ _ => 0) H locs ls (by omega) (by omega) hw hl
