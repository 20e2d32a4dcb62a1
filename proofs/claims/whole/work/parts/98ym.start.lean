/-! THE START: the heap while it is made -/
def Te (h : Nat) (e : Nat → Option xE) : St := fun q => if h ≤ q ∧ q < h + 340 then e (q - h) else none
def eu (e : Nat → Option xE) (k : Nat) (x : xE) : Nat → Option xE := fun i => if i = k then some x else e i
section ST
variable {h : Nat} {e : Nat → Option xE} {k : Nat}
theorem Te_at (hk : k < 340) : Te h e (h + k) = e k := by
  unfold Te
  rw [if_pos (by omega), Nat.add_sub_cancel_left]
theorem Te_xu (hk : k < 340) {x : xE} : xu (Te h e) (h + k) x = Te h (eu e k x) := by
  funext q
  unfold xu Te eu
  by_cases c : q = h + k
  · subst c
    rw [if_pos rfl, if_pos (by omega), Nat.add_sub_cancel_left, if_pos rfl]
  · rw [if_neg c]
    by_cases c2 : h ≤ q ∧ q < h + 340
    · rw [if_pos c2, if_pos c2, if_neg (by omega)]
    · rw [if_neg c2, if_neg c2]
theorem Te_0 : (fun _ => none : St) = Te h (fun _ => none) := by
  funext q
  unfold Te
  split <;> rfl
theorem eu_at {x : xE} : eu e k x k = some x := if_pos rfl
theorem eu_ne {x : xE} {i : Nat} (hi : i ≠ k) : eu e k x i = e i := if_neg hi
theorem Te_wr (hk : k < 340) {c j : Nat} {l : List Value} {v : Value} (he : e k = some (.inr (c, l))) (hj : j < l.length) : wrF (Te h e) (h + k) c j v = some (Te h (eu e k (.inr (c, l.set j v)))) := by
  unfold wrF
  rw [Te_at hk, he]
  simp only []
  rw [if_pos ⟨trivial, hj⟩, Te_xu hk]
theorem Te_gR (hk : k < 340) {c j p : Nat} {l : List Value} (he : e k = some (.inr (c, l))) (hv : l[j]? = some (.ref p)) : gR (Te h e) (h + k) c j = some p := by
  unfold gR rdF
  rw [Te_at hk, he]
  simp only []
  rw [if_pos trivial, hv]
theorem Te_gI (hk : k < 340) {c j : Nat} {v : Int32} {l : List Value} (he : e k = some (.inr (c, l))) (hv : l[j]? = some (.int v)) : gI (Te h e) (h + k) c j = some v := by
  unfold gI rdF
  rw [Te_at hk, he]
  simp only []
  rw [if_pos trivial, hv]
theorem Te_o (hk : k < 340) {c : Nat} {l : List Value} (he : e k = some (.inr (c, l))) : isO (Te h e) (h + k) c = some () := by
  unfold isO
  rw [Te_at hk, he]
  simp only []
  rw [if_pos trivial]
theorem Te_sI (hk : k < 340) {n : Nat} {f : Nat → Int32} {j : Nat} {v : Int32} (he : e k = some (.inl (0, n, .inl f))) (hj : j < n) (hn : n ≤ 2147483647) : sI (Te h e) (h + k) (i32 (j : Int)) v = some (Te h (eu e k (.inl (0, n, .inl (upd f j v))))) := by
  have ej : (i32 (j : Int)).toNatClampNeg = j := by
    show (i32 (j : Int)).toInt.toNat = j
    rw [t32 (by omega) (by omega)]; omega
  unfold sI arI
  rw [Te_at hk, he]
  simp only [if_true, sb]
  rw [ej, if_neg, Te_xu hk]
  intro h9
  rcases h9 with h9 | h9
  · rw [q0, lt32 (by omega) (by omega) (by omega) (by omega)] at h9; omega
  · omega
theorem eu_eu {x y : xE} : eu (eu e k x) k y = eu e k y := by
  funext i
  unfold eu
  by_cases c : i = k
  · rw [if_pos c, if_pos c]
  · rw [if_neg c, if_neg c, if_neg c]
/-- rules begun anew: five rounds -/
theorem Te_anew {r : Nat} (hr : r + 5 < 340) {l : List Value} (he : e r = some (.inr (8, l))) (hl : l.length = 9) (h4 : l[4]? = some (.ref (h + (r + 3)))) (h5 : l[5]? = some (.ref (h + (r + 4)))) (e3 : ∃ f, e (r + 3) = some (.inl (0, 5, .inl f))) (e4 : ∃ f, e (r + 4) = some (.inl (0, 5, .inl f))) : ∃ e', iterP (fLX8_startAnew_12 (h + r)) (0, Te h e) = some (Te h e') ∧ (∃ f, e' (r + 3) = some (.inl (0, 5, .inl f)) ∧ ∀ j, j < 5 → f j = 1) ∧ (∃ f, e' (r + 4) = some (.inl (0, 5, .inl f)) ∧ ∀ j, j < 5 → f j = i32 (j : Int)) ∧ ∀ i, i ≠ r + 3 → i ≠ r + 4 → e' i = e i := by
  have key : ∃ y, iterP (fLX8_startAnew_12 (h + r)) (0, Te h e) = some y ∧ ∃ e', y = Te h e' ∧ (∃ f, e' (r + 3) = some (.inl (0, 5, .inl f)) ∧ ∀ j, j < 5 → f j = 1) ∧ (∃ f, e' (r + 4) = some (.inl (0, 5, .inl f)) ∧ ∀ j, j < 5 → f j = i32 (j : Int)) ∧ ∀ i, i ≠ r + 3 → i ≠ r + 4 → e' i = e i := by
    refine loop_ex (fun k x => ∃ e', x = (i32 (k : Int), Te h e') ∧ (∃ f, e' (r + 3) = some (.inl (0, 5, .inl f)) ∧ ∀ j, j < k → f j = 1) ∧ (∃ f, e' (r + 4) = some (.inl (0, 5, .inl f)) ∧ ∀ j, j < k → f j = i32 (j : Int)) ∧ ∀ i, i ≠ r + 3 → i ≠ r + 4 → e' i = e i) _ 5 (fun k x hk hx => ?_) (fun x hx => ?_) ?_
    · obtain ⟨e1, rfl, ⟨f, f1, f2⟩, ⟨g, g1, g2⟩, e2⟩ := hx
      have hb : e1 r = some (.inr (8, l)) := by rw [e2 r (by omega) (by omega)]; exact he
      have w1 := Te_sI (h := h) (e := e1) (k := r + 3) (j := k) (v := 1) (by omega) f1 hk (by decide)
      have hb2 : eu e1 (r + 3) (.inl (0, 5, .inl (upd f k 1))) r = some (.inr (8, l)) := by rw [eu_ne (by omega)]; exact hb
      have g3 : eu e1 (r + 3) (.inl (0, 5, .inl (upd f k 1))) (r + 4) = some (.inl (0, 5, .inl g)) := by rw [eu_ne (by omega)]; exact g1
      have w2 := Te_sI (h := h) (k := r + 4) (j := k) (v := i32 (k : Int)) (by omega) g3 hk (by decide)
      refine ⟨(i32 ((k + 1 : Nat) : Int), Te h (eu (eu e1 (r + 3) (.inl (0, 5, .inl (upd f k 1)))) (r + 4) (.inl (0, 5, .inl (upd g k (i32 (k : Int))))))), ?_, _, rfl, ⟨upd f k 1, ?_, fun j hj => ?_⟩, ⟨upd g k (i32 (k : Int)), eu_at, fun j hj => ?_⟩, fun i a b => ?_⟩
      · unfold fLX8_startAnew_12
        simp only []
        rw [if_neg (by rw [q5]; rw [le32 (by omega) (by omega) (by omega) (by omega)]; omega), Te_gR (by omega) hb h4, sb, w1, sb, Te_gR (by omega) hb2 h5, sb, w2, sb, xlet_eq, q1, a32]
        rfl
      · rw [eu_ne (by omega)]; exact eu_at
      · by_cases c : j = k
        · subst c; exact upd_at
        · rw [upd_ne c]; exact f2 j (by omega)
      · by_cases c : j = k
        · subst c; exact upd_at
        · rw [upd_ne c]; exact g2 j (by omega)
      · rw [eu_ne b, eu_ne a]; exact e2 i a b
    · obtain ⟨e1, rfl, a, b, c⟩ := hx
      refine ⟨Te h e1, ?_, e1, rfl, a, b, c⟩
      unfold fLX8_startAnew_12
      simp only []
      rw [if_pos (by rw [q5]; rw [le32 (by omega) (by omega) (by omega) (by omega)]; omega)]
    · obtain ⟨f, f1⟩ := e3
      obtain ⟨g, g1⟩ := e4
      exact ⟨e, rfl, ⟨f, f1, fun j hj => absurd hj (by omega)⟩, ⟨g, g1, fun j hj => absurd hj (by omega)⟩, fun _ _ _ => rfl⟩
  obtain ⟨_, k1, e', rfl, k2⟩ := key
  exact ⟨e', k1, k2⟩
end ST
