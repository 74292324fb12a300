/-! THE CLAIM OUT OF ONE WALK OF THE LAW'S BODY. Your part is whole_start (and what it stands on); all else here is the same for every law, but numbers. -/
def R_law : String := "ExactEstimatesLaw"
def lw_P (b : Addr) (xs : List Int32) (args : Array Value) (s : State) : Prop := args = #[.ref b] ∧ s.IntsAt b xs ∧ xs.length ≤ 3072 ∧ (Jvm.Cond.and given_1 narrow_1).before args s = true
def lw_Q (_ : Array Value) (s : State) (o : Outcome) (t : State) : Prop := o = .returned (some (.int 1)) ∧ Framed s o t [] 600000 7302250
def lw_Z (below : List Frame) (a : Array Value) (s : State) : State → Prop := fun t => ∃ o, t.status = .running ∧ Ended t below o ∧ lw_Q a s o t
/-- the law's own end, with 1 on the stack, nothing written that was there before, its room as the claim has it -/
theorem lw_ret {p : Program} {l : Launch} {e : Env} {s : State} {m : MethodId} {below : List Frame} {meth : Method} {c : Code} {b : Nat} (hx : p.tables.exec = Jvm.exec) (hb : c.code = code) (hr : meth.sig.returnType = ret) (hlocks : meth.locks = false) {pc : Nat} {H : Heap} {ls : Array Slot} (hdg : decode code pc = .ok (.ireturn, 1)) : W p l e room_1 s m #[Value.ref b] below meth c H [] 600000 7302250 (lw_Z below #[Value.ref b] s) (F0 m pc ls [.int 1]) := by
  intro T hT X
  obtain ⟨fs, hret, hrun, hended, hW, hframe⟩ := X.leave (v := some (.int 1)) (hlocks := hlocks) (fun h => by rw [hr] at h; cases h)
  have hmeth' : T.vm.method? m = some meth := X.method'
  refine ⟨T.setFrames fs, ?_, .returned (some (.int 1)), hrun, hended, rfl, ⟨_, rfl⟩, hW, hframe⟩
  jvm_step X.here [X.here.top, hx, hb, hdg, hmeth', hr, ret, narrow_b1]
  (try refine ⟨rfl, ?_⟩); (try refine ⟨rfl, ?_⟩)
  first | (intro acts; rw [hret _ acts rfl rfl rfl]) | rw [hret _ _ rfl rfl rfl]
  exact Steps.refl _
/-- what holds at the law's entry: the machine, the code, the tables' words (any of lw_tbl by 'hts w (by decide +kernel)'), the script of L ints xs at the cell b, what the Statement gives of the start (any of its parts by flat_of_before) -/
def lw_At (p : Program) (s : State) (m : MethodId) (meth : Method) (c : Code) (b L : Nat) (xs : Nat → Int32) : Prop :=
  p.tables.exec = Jvm.exec ∧ c.code = code ∧ meth.sig.returnType = ret ∧ c.maxLocals = 4 ∧ s.vm.findClass R_law = some m.cls ∧ (∀ w ∈ lw_tbl, w.before #[Value.ref b] s = true) ∧ va_X b L xs s s.heap ∧ b < s.heap.size ∧ meth.locks = false ∧ (Jvm.Cond.and given_1 narrow_1).before #[Value.ref b] s = true
set_option maxRecDepth 100000 in
set_option maxHeartbeats 4000000 in
/-- the law's loop: i ints are read, the class and the reference stand alike -/
theorem law_loop {p : Program} {e : Env} {s : State} {m : MethodId} {below : List Frame} {meth : Method} {c : Code} (l : Launch) {b L : Nat} {xs : Nat → Int32} {D : va_G} {cs : Nat → ClassId} {ad : Nat → Nat → Nat} {am : Nat → Nat} (C0 : lw_At p s m meth c b L xs) (X : LX D cs p m c s b L xs) :
    ∀ (n i : Nat), i ≤ L → L + 1 ≤ i + n → ∀ (M E O P : Nat → Nat → Int) (z : Nat → Int) (H : Heap) (locs : List Loc) (ls : Array Slot), Ok M E O P z → HW D (AL s) s.heap (wE ad cs E O P z ++ wM am cs M) H locs → lv_has ls 4 (lL b (ad 5 0) (am 0) i) →
      W p l e room_1 s m #[Value.ref b] below meth c H locs 279 14862 (lw_Z below #[Value.ref b] s) (F0 m 18 ls []) := by
  obtain ⟨hx, hb, hr, hml, hown, hts, hX, hbl, hlocks, hgv⟩ := C0
  have h72 := X.2.2.2
  intro n
  induction n with
  | zero =>
    intro i h1 h2
    exact absurd h2 (by omega)
  | succ n ih =>
    intro i hi hin M E O P z H locs ls hok hw hl
    refine sy_iload_n X.1 d_L_law_18 hl 3 rfl ?_
    refine sy_aload_n X.1 d_L_law_19 hl 0 rfl ?_
    refine va_slen (A := AL s) hx hb hX hbl (Nat.not_le.mpr hbl) hw.2.2.1 d_L_law_20 ?_
    rw [show Int32.ofNat L = iI (L : Int) from Int32.ofInt_eq_ofNat.symm]
    refine sy_bipush X.1 d_L_law_21 rfl ?_
    refine sy_isub X.1 d_L_law_23 ?_
    refine sy_icmp_gt (tgt := 604) X.1 d_L_law_24 (by decide) ⟨by omega, by omega⟩ ⟨by omega, by omega⟩ (fun hc => ?_) (fun hc => ?_)
    · refine lv_iconst (v := 1) hx hb d_L_law_604 (by decide) ?_
      refine va_forget (fun q hq => hw.2.2.1.2.2 q hq) ?_
      refine W.widen (k := 600000) (n := 7302250) (Nat.le_of_ble_eq_true rfl) (Nat.le_of_ble_eq_true rfl) ?_
      exact lw_ret hx hb hr hlocks d_L_law_605
    · have hL6 : i + 6 ≤ L := by omega
      have nx : ∀ (M E O P : Nat → Nat → Int) (z : Nat → Int) (H : Heap) (locs : List Loc), Ok M E O P z → HW D (AL s) s.heap (wE ad cs E O P z ++ wM am cs M) H locs → W p l e room_1 s m #[Value.ref b] below meth c H locs 279 14862 (lw_Z below #[Value.ref b] s) (F0 m 598 ls []) := fun M E O P z H locs hok hw => by
        refine sy_iinc (y := ((i + 6 : Nat) : Int)) X.1 d_L_law_598 hl 3 rfl (by omega) (by decide) rfl (fun ls hl => ?_)
        refine sy_goto (tgt := 18) X.1 d_L_law_601 (by decide) ?_
        exact ih (i + 6) (by omega) (by omega) M E O P z H locs ls hok hw (lv_sub hl [1, 2, 3, 0] rfl)
      refine sy_aload_n X.1 d_L_law_27 hl 0 rfl ?_
      refine sy_iload_n X.1 d_L_law_28 hl 3 rfl ?_
      refine sc_ld X hw i rfl (by omega) d_L_law_29 ?_
      refine sy_bipush X.1 d_L_law_30 rfl ?_
      refine sy_iand X.1 4 16 d_L_law_32 (by decide) (by decide) (by decide) ?_
      have hv0 : 0 ≤ vX xs i % 16 := Int.emod_nonneg _ (by decide)
      have hv1 : vX xs i % 16 < 16 := Int.emod_lt_of_pos _ (by decide)
      generalize vX xs i % 16 = v at hv0 hv1 ⊢
      have hv : v = 0 ∨ v = 1 ∨ v = 2 ∨ v = 3 ∨ v = 4 ∨ v = 5 ∨ v = 6 ∨ v = 7 ∨ v = 8 ∨ v = 9 ∨ v = 10 ∨ 10 < v := by omega
      rcases hv with rfl | rfl | rfl | rfl | rfl | rfl | rfl | rfl | rfl | rfl | rfl | hv
      · refine lv_tableIn (off := 59) (tgt := 92) hx hb d_L_law_33 (by decide) (by decide) (by decide) (by decide) ?_
        exact lo_initial X hL6 hok hw hl nx
      · refine lv_tableIn (off := 122) (tgt := 155) hx hb d_L_law_33 (by decide) (by decide) (by decide) (by decide) ?_
        exact lo_step X hL6 hok hw hl nx
      · refine lv_tableIn (off := 175) (tgt := 208) hx hb d_L_law_33 (by decide) (by decide) (by decide) (by decide) ?_
        exact lo_noise X hL6 hok hw hl nx
      · refine lv_tableIn (off := 218) (tgt := 251) hx hb d_L_law_33 (by decide) (by decide) (by decide) (by decide) ?_
        exact lo_observe X hL6 hok hw hl nx
      · refine lv_tableIn (off := 271) (tgt := 304) hx hb d_L_law_33 (by decide) (by decide) (by decide) (by decide) ?_
        exact lo_advance X hL6 hok hw hl nx
      · refine lv_tableIn (off := 284) (tgt := 317) hx hb d_L_law_33 (by decide) (by decide) (by decide) (by decide) ?_
        exact lo_time X hL6 hok hw hl nx
      · refine lv_tableIn (off := 297) (tgt := 330) hx hb d_L_law_33 (by decide) (by decide) (by decide) (by decide) ?_
        exact lo_observations X hL6 hok hw hl nx
      · refine lv_tableIn (off := 310) (tgt := 343) hx hb d_L_law_33 (by decide) (by decide) (by decide) (by decide) ?_
        exact lo_sign X hL6 hok hw hl nx
      · refine lv_tableIn (off := 353) (tgt := 386) hx hb d_L_law_33 (by decide) (by decide) (by decide) (by decide) ?_
        exact lo_bits X hL6 hok hw hl nx
      · refine lv_tableIn (off := 422) (tgt := 455) hx hb d_L_law_33 (by decide) (by decide) (by decide) (by decide) ?_
        exact lo_word X hL6 hok hw hl nx
      · refine lv_tableIn (off := 502) (tgt := 535) hx hb d_L_law_33 (by decide) (by decide) (by decide) (by decide) ?_
        exact lo_compare X hL6 hok hw hl nx
      · refine lv_tableOut (tgt := 598) hx hb d_L_law_33 (Or.inr (by rw [iI_int ⟨by omega, by omega⟩]; exact hv)) (by decide) ?_
        exact nx M E O P z H locs hok hw
