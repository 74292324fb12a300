/-! the cells of a new object, put in order -/
theorem perm_fin {α : Type} [DecidableEq α] {X5 B3 W4 B10 O Q Bo WW : List α} {c : α} (hB : (B10 ++ B3 ++ W4).Perm (Bo ++ WW)) : (X5 ++ (c :: ((((B3 ++ W4) ++ B10) ++ O) ++ Q))).Perm (X5 ++ ((O ++ ((Q ++ [c]) ++ Bo)) ++ WW)) := by
  rw [List.perm_iff_count]
  intro a
  have h := hB.count_eq a
  simp only [List.count_append, List.count_cons, List.count_nil] at *
  omega
theorem perm_flat {α β : Type} [DecidableEq α] (f g : β → List α) : ∀ l : List β, (l.flatMap (fun b => f b ++ g b)).Perm (l.flatMap f ++ l.flatMap g)
  | [] => List.Perm.refl _
  | b :: l => by
    have ih := perm_flat f g l
    rw [List.perm_iff_count]
    intro a
    have h := ih.count_eq a
    simp only [List.flatMap_cons, List.count_append] at *
    omega
theorem flat_one {α β : Type} (f : β → α) : ∀ l : List β, l.flatMap (fun b => [f b]) = l.map f
  | [] => rfl
  | b :: l => by rw [List.flatMap_cons, flat_one f l]; rfl
theorem flat_congr {α : Type} {f g : Nat → List α} : ∀ {n : Nat}, (∀ b, b < n → f b = g b) → (List.range n).flatMap f = (List.range n).flatMap g
  | 0, _ => rfl
  | n + 1, h => by
    rw [List.range_succ, List.flatMap_append, List.flatMap_append, flat_congr (fun b hb => h b (by omega))]
    simp only [List.flatMap_cons, List.flatMap_nil, h n (by omega)]
theorem flat_nine {α : Type} (f : Nat → List α) : ∀ n : Nat, (List.range n).flatMap (fun b => (List.range 9).flatMap (fun j => f (9 * b + j))) = (List.range (9 * n)).flatMap f
  | 0 => rfl
  | n + 1 => by
    rw [List.range_succ (n := n), List.flatMap_append, flat_nine f n, show 9 * (n + 1) = 9 * n + 9 by omega, List.range_add, List.flatMap_append]
    congr 1
    simp only [List.flatMap_cons, List.flatMap_nil, List.append_nil, List.flatMap_map]
def adE (h x1 x2 x3 x4 com : Nat) (fo fq fb : Nat → Nat) (wa wb : Nat → Nat → Nat) (t0 t1 : Nat → Nat) : Nat → Nat → Nat := fun kd i => match kd with
  | 0 => if i < 117 then wa (i / 9) (i % 9) else t0 (i - 117)
  | 1 => if i < 117 then wb (i / 9) (i % 9) else t1 (i - 117)
  | 2 => fb i
  | 3 => fo i
  | 4 => if i < 3 then fq i else com
  | _ => match i with
    | 0 => h
    | 1 => x1
    | 2 => x2
    | 3 => x3
    | _ => x4
def oW (cs : Nat → ClassId) (a b : Nat) : va_W := [(a, .inr (3, [.ref b])), (b, aj (cs 1) 5 (fun _ => 0))]
def zO : List Value := [.int 0, .int 0, .int 0, .int 0, .int 0, .int 0]
def zQ : List Value := [.int 0, .int 0, .int 0, .int 0, .int 0, .int 0, .int 0]
def Z2 : Nat → Nat → Int := fun _ _ => 0
def Z1 : Nat → Int := fun _ => 0
theorem wZ_0 (ad : Nat → Nat → Nat) (cs : Nat → ClassId) : wZ ad cs Z1 = (List.range 121).map (fun k => (ad 0 k, .inr (3, [.ref (ad 1 k)]))) ++ (List.range 121).map (fun k => (ad 1 k, aj (cs 1) 5 (fun _ => 0))) := by
  unfold wZ wW
  have e : ∀ k, lim (Z1 k) = fun _ => 0 := fun k => by funext j; unfold lim Z1; simp
  simp only [e]
theorem perm_B (cs : Nat → ClassId) (ad : Nat → Nat → Nat) (fb : Nat → Nat) (wa wb : Nat → Nat → Nat) (t0 t1 : Nat → Nat) (h0 : ∀ b, b < 13 → ∀ j, j < 9 → ad 0 (9 * b + j) = wa b j) (h1 : ∀ b, b < 13 → ∀ j, j < 9 → ad 1 (9 * b + j) = wb b j) (h2 : ∀ b, ad 2 b = fb b) (g0 : ∀ k, k < 4 → ad 0 (117 + k) = t0 k) (g1 : ∀ k, k < 4 → ad 1 (117 + k) = t1 k) :
    ((List.range 13).flatMap (fun b => nB cs (fb b) (wa b) (wb b)) ++ (List.range 4).flatMap (fun k => oW cs (t0 k) (t1 k))).Perm ((List.range 13).map (fun b => (ad 2 b, .inr (0, fB ad b))) ++ wZ ad cs Z1) := by
  have e1 : (List.range 13).flatMap (fun b => nB cs (fb b) (wa b) (wb b)) = (List.range 13).flatMap (fun b => [((ad 2 b, .inr (0, fB ad b)) : Nat × va_E)] ++ (List.range 9).flatMap (fun j => oW cs (ad 0 (9 * b + j)) (ad 1 (9 * b + j)))) := by
    refine flat_congr (fun b hb => ?_)
    have q : (List.range 9).flatMap (fun j => oW cs (ad 0 (9 * b + j)) (ad 1 (9 * b + j))) = (List.range 9).flatMap (fun k => oW cs (wa b k) (wb b k)) := flat_congr (fun j hj => by rw [h0 b hb j hj, h1 b hb j hj])
    rw [q]
    unfold nB fB
    rw [h2 b, show 9 * b = 9 * b + 0 from rfl, h0 b hb 0 (by decide), h0 b hb 1 (by decide), h0 b hb 2 (by decide), h0 b hb 3 (by decide), h0 b hb 4 (by decide), h0 b hb 5 (by decide), h0 b hb 6 (by decide), h0 b hb 7 (by decide), h0 b hb 8 (by decide)]
    rfl
  have e2 : (List.range 4).flatMap (fun k => oW cs (t0 k) (t1 k)) = (List.range 4).flatMap (fun k => oW cs (ad 0 (117 + k)) (ad 1 (117 + k))) := flat_congr (fun k hk => by rw [g0 k hk, g1 k hk])
  have e3 : (List.range 121).flatMap (fun k => oW cs (ad 0 k) (ad 1 k)) = (List.range 117).flatMap (fun k => oW cs (ad 0 k) (ad 1 k)) ++ (List.range 4).flatMap (fun k => oW cs (ad 0 (117 + k)) (ad 1 (117 + k))) := by
    rw [show (121 : Nat) = 117 + 4 from rfl, List.range_add, List.flatMap_append, List.flatMap_map]
  rw [e1, e2]
  have p1 := @perm_flat _ _ (Classical.typeDecidableEq (Nat × va_E)) (fun b : Nat => [((ad 2 b, .inr (0, fB ad b)) : Nat × va_E)]) (fun b => (List.range 9).flatMap (fun j => oW cs (ad 0 (9 * b + j)) (ad 1 (9 * b + j)))) (List.range 13)
  rw [flat_one, flat_nine (fun k => oW cs (ad 0 k) (ad 1 k)) 13] at p1
  have p2 := @perm_flat _ _ (Classical.typeDecidableEq (Nat × va_E)) (fun k : Nat => [((ad 0 k, .inr (3, [.ref (ad 1 k)])) : Nat × va_E)]) (fun k => [((ad 1 k, aj (cs 1) 5 (fun _ => 0)) : Nat × va_E)]) (List.range 121)
  rw [flat_one, flat_one] at p2
  rw [wZ_0]
  have e4 : (List.range 121).flatMap (fun k => [((ad 0 k, .inr (3, [.ref (ad 1 k)])) : Nat × va_E)] ++ [((ad 1 k, aj (cs 1) 5 (fun _ => 0)) : Nat × va_E)]) = (List.range 117).flatMap (fun k => oW cs (ad 0 k) (ad 1 k)) ++ (List.range 4).flatMap (fun k => oW cs (ad 0 (117 + k)) (ad 1 (117 + k))) := e3
  rw [e4] at p2
  refine (p1.append_right _).trans ?_
  rw [List.append_assoc]
  exact p2.append_left _
theorem HW.entry {D : va_G} {A : Nat → Prop} {H0 : Heap} {ws1 ws2 : va_W} {a : Nat} {x y : va_E} {H : Heap} {locs : List Loc} (hw : HW D A H0 (ws1 ++ (a, x) :: ws2) H locs) (h : va_at D classes (a, x) H → va_at D classes (a, y) H) : HW D A H0 (ws1 ++ (a, y) :: ws2) H locs := by
  obtain ⟨hP, hD, hS, hA⟩ := hw
  have key : ∀ k q, (ws1 ++ (a, y) :: ws2)[k]? = some q → ∃ q1, (ws1 ++ (a, x) :: ws2)[k]? = some q1 ∧ q1.1 = q.1 ∧ (va_at D classes q1 H → va_at D classes q H) := fun k q hq => by
    rcases Nat.lt_trichotomy k ws1.length with g | g | g
    · rw [List.getElem?_append_left g] at hq
      exact ⟨q, by rw [List.getElem?_append_left g]; exact hq, rfl, fun z => z⟩
    · subst g
      rw [List.getElem?_append_right (Nat.le_refl _), Nat.sub_self] at hq
      cases hq
      exact ⟨(a, x), by rw [List.getElem?_append_right (Nat.le_refl _), Nat.sub_self]; rfl, rfl, h⟩
    · rw [List.getElem?_append_right (by omega)] at hq
      refine ⟨q, ?_, rfl, fun z => z⟩
      rw [List.getElem?_append_right (by omega)]
      obtain ⟨j, hj⟩ : ∃ j, k - ws1.length = j + 1 := ⟨k - ws1.length - 1, by omega⟩
      rw [hj] at hq ⊢
      exact hq
  refine ⟨fun k q hq => ?_, ⟨fun i j p1 q1 hp hq he => ?_, fun k q hq => ?_⟩, hS, hA⟩
  · obtain ⟨q1, e1, e2, e3⟩ := key k q hq
    exact e3 (hP k q1 e1)
  · obtain ⟨p2, e1, e2, e3⟩ := key i p1 hp
    obtain ⟨q2, f1, f2, f3⟩ := key j q1 hq
    exact hD.1 i j p2 q2 e1 f1 (by rw [e2, f2, he])
  · obtain ⟨q1, e1, e2, e3⟩ := key k q hq
    rw [← e2]; exact hD.2 k q1 e1
theorem arf_ext {D : va_G} {H : Heap} {a : Nat} {c : ClassId} {n : Nat} {f g : Nat → Option Nat} (h : ∀ k, k < n → f k = g k) : va_at D classes (a, .inl (c, n, .inr (.inr (.inr (.inr f))))) H → va_at D classes (a, .inl (c, n, .inr (.inr (.inr (.inr g))))) H := fun hv => by
  have e : vp_cell c (n, .inr (.inr (.inr (.inr f)))) = vp_cell c (n, .inr (.inr (.inr (.inr g)))) := by
    rw [vp_cell_q, vp_cell_q]
    unfold arrV
    congr 1
    apply Array.ext
    · simp
    · intro i h1 h2
      simp only [Array.getElem_ofFn]
      rw [h i (by simpa using h1)]
  show H[a]? = some (vp_cell c (n, .inr (.inr (.inr (.inr g)))))
  rw [← e]; exact hv
