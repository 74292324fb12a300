/-! the class's own world: 121 whole numbers (9 of each of 13 beliefs, then top, bottom, left, right), the beliefs, the observations, the passages, the object itself -/
def aj (c : ClassId) (n : Nat) (f : Nat → Int) : va_E := .inl (c, n, .inr (.inl (fun k => jI (f k))))
def wW (ad : Nat → Nat → Nat) (cs : Nat → ClassId) (v : Nat → Nat → Int) : va_W := (List.range 121).map (fun k => (ad 0 k, .inr (3, [.ref (ad 1 k)]))) ++ (List.range 121).map (fun k => (ad 1 k, aj (cs 1) 5 (v k)))
theorem aj_set (c : ClassId) (n : Nat) (f : Nat → Int) (i : Nat) (x : Int) : (.inl (c, n, .inr (.inl (vp_updL (fun k => jI (f k)) i (jI x)))) : va_E) = aj c n (up1 f i x) := by
  unfold aj
  congr 5
  funext k
  by_cases h : k = i <;> simp [vp_updL, up1, h]
theorem wW_o {ad : Nat → Nat → Nat} {cs : Nat → ClassId} {v : Nat → Nat → Int} {k : Nat} (hk : k < 121) : (wW ad cs v)[k]? = some (ad 0 k, .inr (3, [.ref (ad 1 k)])) := by
  unfold wW
  rw [List.getElem?_append_left (by simp; exact hk)]
  simp [hk]
theorem wW_a {ad : Nat → Nat → Nat} {cs : Nat → ClassId} {v : Nat → Nat → Int} {k : Nat} (hk : k < 121) : (wW ad cs v)[121 + k]? = some (ad 1 k, aj (cs 1) 5 (v k)) := by
  unfold wW
  rw [List.getElem?_append_right (by simp)]
  simp [hk]
theorem wW_set {ad : Nat → Nat → Nat} {cs : Nat → ClassId} {v : Nat → Nat → Int} {k : Nat} (hk : k < 121) (f : Nat → Int) : (wW ad cs v).set (121 + k) (ad 1 k, aj (cs 1) 5 f) = wW ad cs (upA v k f) := by
  unfold wW
  rw [List.set_append_right _ _ (by simp)]
  congr 1
  simp only [List.length_map, List.length_range, Nat.add_sub_cancel_left]
  apply List.ext_getElem?
  intro i
  rw [List.getElem?_set]
  by_cases h : k = i
  · subst h
    simp [hk, upA]
  · simp only [h, if_false, List.getElem?_map]
    by_cases hi : i < 121
    · simp [hi, upA, Ne.symm h]
    · simp [hi]
theorem rcv_W {ad : Nat → Nat → Nat} {cs : Nat → ClassId} {v : Nat → Nat → Int} {k : Nat} (hk : k < 121) : Rcv (wW ad cs v) (ad 0 k) R_W := ⟨k, 3, _, _, _, wW_o hk, rfl⟩
theorem ig_W : ∀ w ∈ u_ws R_W F_W 1, w ∈ TT := fun w hw => by
  have : ∀ w ∈ u_ws R_W F_W 1, goodWord w = true := by decide +kernel
  exact tt_of (i_W w hw) (this w hw)
/-- the limb at j of a whole number, in two's complement -/
def lim (z : Int) (j : Nat) : Int := z / 4294967296 ^ j % 4294967296
def wZ (ad : Nat → Nat → Nat) (cs : Nat → ClassId) (z : Nat → Int) : va_W := wW ad cs (fun k => lim (z k))
theorem lim_rng (z : Int) (j : Nat) : 0 ≤ lim z j ∧ lim z j < 4294967296 := ⟨Int.emod_nonneg _ (by decide), Int.emod_lt_of_pos _ (by decide)⟩
section CW
variable {p : Program} {l : Launch} {e : Env} {R : Room} {s : State} {m : MethodId} {args : Array Value} {below : List Frame} {meth : Method} {c : Code} {H : Heap} {locs : List Loc} {cells slots : Nat} {Q : State → Prop}
variable {D : va_G} {own : String} {cc : ByteArray} {nL : Nat} {pc : Nat} {ls : Array Slot} {rest : List Value} {A : Nat → Prop} {H0 : Heap} {ad : Nat → Nat → Nat} {cs : Nat → ClassId} {v : Nat → Nat → Int}
theorem w_get {idx k : Nat} (X : CX D (tyL cs) R_W cc nL p m c s args) (hw : HW D A H0 (wW ad cs v) H locs) (hk : k < 121) (hl : Cond.fieldLink R_W idx (F_W 0).1 (F_W 0).2.1 (F_W 0).2.2.1 ∈ TT) (hd : decode cc pc = .ok (.getfield idx, 3))
    (kk : W p l e R s m args below meth c H locs cells slots Q (F0 m (pc + 3) ls (.ref (ad 1 k) :: rest))) : W p l e R s m args below meth c H locs cells slots Q (F0 m pc ls (.ref (ad 0 k) :: rest)) :=
  sy_get (k := 0) (v := .ref (ad 1 k)) X hw (wW_o hk) rfl ig_W (by decide) hl rfl hd kk
theorem w_ald {i : Int} (X : CX D (tyL cs) own cc nL p m c s args) (hw : HW D A H0 (wW ad cs v) H locs) (k j : Nat) (hk : k < 121) (hi : i = (j : Int)) (hj : j < 5) (x : Int) (hx : v k j = x) (hd : decode cc pc = .ok (.laload, 1))
    (kk : W p l e R s m args below meth c H locs cells slots Q (F0 m (pc + 1) ls (.long (jI x) :: rest))) : W p l e R s m args below meth c H locs cells slots Q (F0 m pc ls (.int (iI i) :: .ref (ad 1 k) :: rest)) := by
  subst hi
  subst hx
  refine va_lald X.1.1 X.1.2.1 X.2 hw.1 (121 + k) 1 (wW_a hk) rfl (iI_in (Int.natCast_nonneg j) (by omega) (by decide)) hd ?_
  rw [iI_cl (Int.natCast_nonneg j) (by omega), Int.toNat_natCast]
  exact kk
theorem w_ast {i x : Int} (X : CX D (tyL cs) own cc nL p m c s args) (hw : HW D A H0 (wW ad cs v) H locs) (k j : Nat) (hk : k < 121) (hi : i = (j : Int)) (hj : j < 5) (hd : decode cc pc = .ok (.lastore, 1))
    (kk : ∀ (H1 : Heap) (locs1 : List Loc), HW D A H0 (wW ad cs (upA v k (up1 (v k) j x))) H1 locs1 → W p l e R s m args below meth c H1 locs1 cells slots Q (F0 m (pc + 1) ls rest)) : W p l e R s m args below meth c H locs cells slots Q (F0 m pc ls (.long (jI x) :: .int (iI i) :: .ref (ad 1 k) :: rest)) := by
  subst hi
  refine va_last X.1.1 X.1.2.1 X.2 hw.1 hw.2.1 hw.2.2.1 (121 + k) 1 (wW_a hk) rfl (iI_in (Int.natCast_nonneg j) (by omega) (by decide)) hd (fun H1 locs1 hP hD hS => ?_)
  rw [iI_cl (Int.natCast_nonneg j) (by omega), Int.toNat_natCast, aj_set, wW_set hk] at hP hD
  exact kk H1 locs1 ⟨hP, hD, hS, hw.2.2.2⟩
/-- only the five limbs count -/
theorem aj_ext {c : ClassId} {f g : Nat → Int} (h : ∀ j, j < 5 → f j = g j) : vp_cell c (5, .inr (.inl (fun k => jI (f k)))) = vp_cell c (5, .inr (.inl (fun k => jI (g k)))) := by
  rw [vp_cell_l, vp_cell_l]
  unfold arrV
  congr 1
  apply Array.ext
  · simp
  · intro i h1 h2
    simp only [Array.getElem_ofFn]
    rw [h i (by simpa using h1)]
theorem HW.ext {Xs : va_W} {v1 : Nat → Nat → Int} (hw : HW D A H0 (Xs ++ wW ad cs v) H locs) (h : ∀ k, k < 121 → ∀ j, j < 5 → v k j = v1 k j) : HW D A H0 (Xs ++ wW ad cs v1) H locs := by
  obtain ⟨hP, hD, hS, hA⟩ := hw
  have hlen : ∀ v : Nat → Nat → Int, (wW ad cs v).length = 242 := fun v => by simp [wW]
  have key : ∀ (i : Nat) (q : Nat × va_E), (Xs ++ wW ad cs v1)[i]? = some q → ∃ e0, (Xs ++ wW ad cs v)[i]? = some (q.1, e0) ∧ (va_at D classes (q.1, e0) H → va_at D classes q H) := by
    intro i q hq
    rcases Nat.lt_or_ge i Xs.length with hi | hi
    · rw [List.getElem?_append_left hi] at hq
      exact ⟨q.2, by rw [List.getElem?_append_left hi]; exact hq, fun h => h⟩
    · rw [List.getElem?_append_right hi] at hq ⊢
      obtain ⟨k, hk⟩ : ∃ k, k = i - Xs.length := ⟨_, rfl⟩
      rw [← hk] at hq ⊢
      have hk2 : k < 242 := by rw [← hlen v1]; exact (List.getElem?_eq_some_iff.mp hq).1
      rcases Nat.lt_or_ge k 121 with h1 | h1
      · rw [wW_o h1] at hq
        cases hq
        exact ⟨_, wW_o h1, fun h => h⟩
      · obtain ⟨k2, rfl⟩ : ∃ k2, k = 121 + k2 := ⟨k - 121, by omega⟩
        rw [wW_a (show k2 < 121 by omega)] at hq
        cases hq
        refine ⟨_, wW_a (by omega), fun g => ?_⟩
        show H[ad 1 k2]? = some (vp_cell (cs 1) _)
        have g2 : H[ad 1 k2]? = some (vp_cell (cs 1) (5, .inr (.inl (fun j => jI (v k2 j))))) := g
        rw [g2, aj_ext (h k2 (by omega))]
  refine ⟨fun i q hq => ?_, ⟨fun i j p q hp hq e => ?_, fun i q hq => ?_⟩, hS, hA⟩
  · obtain ⟨e0, h1, h2⟩ := key i q hq
    exact h2 (hP i _ h1)
  · obtain ⟨e0, h1, -⟩ := key i p hp
    obtain ⟨e1, h3, -⟩ := key j q hq
    exact hD.1 i j _ _ h1 h3 e
  · obtain ⟨e0, h1, -⟩ := key i q hq
    exact hD.2 i (q.1, e0) h1
theorem HW.ext0 {v1 : Nat → Nat → Int} (hw : HW D A H0 (wW ad cs v) H locs) (h : ∀ k, k < 121 → ∀ j, j < 5 → v k j = v1 k j) : HW D A H0 (wW ad cs v1) H locs := HW.ext (Xs := []) hw h
end CW
