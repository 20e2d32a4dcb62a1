/-! FREE by states: a state is the longest end that is a state -/
/-- Q is fit: the empty word first; with a word all its beginnings; every proper beginning of a left of at most 8 letters; nothing longer than 7 -/
def QF (S : Sys) (Q : List (List Nat)) : Prop := [] ∈ Q ∧ (∀ v x, v ++ [x] ∈ Q → v ∈ Q) ∧ (∀ r, r < nr S → (rl S r).length ≤ 8 → ∀ v x, rl S r = v ++ [x] → v ∈ Q)
/-- u is the longest end of w that is in Q -/
def lgE (Q : List (List Nat)) (w u : List Nat) : Prop := u <:+ w ∧ u ∈ Q ∧ ∀ v, v <:+ w → v ∈ Q → v <:+ u
def enL (S : Sys) (w : List Nat) : Prop := ∃ r, r < nr S ∧ rl S r <:+ w
theorem suf_len {a b c : List Nat} (h1 : a <:+ c) (h2 : b <:+ c) (hl : a.length ≤ b.length) : a <:+ b := List.suffix_of_suffix_length_le h1 h2 hl
theorem suf_snoc {v w : List Nat} {x : Nat} : v ++ [x] <:+ w ++ [x] ↔ v <:+ w := by
  constructor
  · rintro ⟨t, ht⟩
    rw [← List.append_assoc] at ht
    exact ⟨t, (List.append_inj' ht rfl).1⟩
  · rintro ⟨t, ht⟩
    exact ⟨t, by rw [← List.append_assoc, ht]⟩
theorem suf_cases {v w : List Nat} {x : Nat} (h : v <:+ w ++ [x]) : v = [] ∨ ∃ v', v = v' ++ [x] ∧ v' <:+ w := by
  rcases List.eq_nil_or_concat v with rfl | ⟨v', y, hv⟩
  · exact Or.inl rfl
  · rw [List.concat_eq_append] at hv
    subst hv
    obtain ⟨t, ht⟩ := h
    rw [← List.append_assoc] at ht
    obtain ⟨h1, h2⟩ := List.append_inj' ht rfl
    have : y = x := by simpa using h2
    subst this
    exact Or.inr ⟨v', rfl, t, h1⟩
theorem lgE_end {S : Sys} {Q : List (List Nat)} (hQ : QF S Q) (hne : ∀ r, r < nr S → rl S r ≠ []) {w u : List Nat} (h : lgE Q w u) {x : Nat} (hl : w.length < 8) : enL S (w ++ [x]) ↔ enL S (u ++ [x]) := by
  obtain ⟨h1, h2, h3⟩ := h
  constructor
  · rintro ⟨r, hr, hs⟩
    refine ⟨r, hr, ?_⟩
    have hle := List.IsSuffix.length_le hs
    rw [List.length_append, show [x].length = 1 from rfl] at hle
    rcases suf_cases hs with e | ⟨v', e, hv⟩
    · exact absurd e (hne r hr)
    · rw [e]
      exact suf_snoc.mpr (h3 v' hv (hQ.2.2 r hr (by omega) v' x e))
  · rintro ⟨r, hr, hs⟩
    exact ⟨r, hr, List.IsSuffix.trans hs (suf_snoc.mpr h1)⟩
theorem lgE_next {S : Sys} {Q : List (List Nat)} (hQ : QF S Q) {w u z : List Nat} (h : lgE Q w u) {x : Nat} (hz : lgE Q (u ++ [x]) z) : lgE Q (w ++ [x]) z := by
  obtain ⟨h1, h2, h3⟩ := h
  obtain ⟨z1, z2, z3⟩ := hz
  refine ⟨List.IsSuffix.trans z1 (suf_snoc.mpr h1), z2, fun v hv hvQ => ?_⟩
  rcases suf_cases hv with rfl | ⟨v', rfl, hv'⟩
  · exact List.nil_suffix
  · exact z3 _ (suf_snoc.mpr (h3 v' hv' (hQ.2.1 v' x hvQ))) hvQ
theorem lgE_uniq {Q : List (List Nat)} {w u z : List Nat} (h : lgE Q w u) (hz : lgE Q w z) : u = z := by
  have a := hz.2.2 u h.1 h.2.1
  have b := h.2.2 z hz.1 hz.2.1
  exact List.IsSuffix.eq_of_length a (Nat.le_antisymm (List.IsSuffix.length_le a) (List.IsSuffix.length_le b))
/-- ways on from a state: nx is the next state's number, or none -/
def pth (nx : Nat → Nat → Option Nat) (K : Nat) : Nat → Nat → Nat
  | 0, _ => 1
  | m + 1, i => (List.range K).foldl (fun a x => a + (match nx i x with
    | some j => pth nx K m j
    | none => 0)) 0
theorem endB_iff {S : Sys} {w : List Nat} : endB S w = true ↔ enL S w := by
  unfold endB enL
  rw [List.find?_isSome]
  constructor
  · rintro ⟨r, hr, he⟩
    obtain ⟨e1, e2⟩ := of_decide_eq_true he
    exact ⟨r, List.mem_range.mp hr, by rw [← e2]; exact List.drop_suffix _ _⟩
  · rintro ⟨r, hr, t, ht⟩
    refine ⟨r, List.mem_range.mpr hr, decide_eq_true ⟨?_, ?_⟩⟩
    · rw [← ht, List.length_append]; omega
    · rw [← ht, List.length_append, Nat.add_sub_cancel, List.drop_left]
/-- the recursion over words is that over states -/
theorem frS_pth {S : Sys} {Q : List (List Nat)} (hQ : QF S Q) (hne : ∀ r, r < nr S → rl S r ≠ []) {nx : Nat → Nat → Option Nat} (hnx : ∀ i x, i < Q.length → x < S.1 → match nx i x with
      | some j => j < Q.length ∧ ¬ enL S (Q.getD i [] ++ [x]) ∧ lgE Q (Q.getD i [] ++ [x]) (Q.getD j [])
      | none => enL S (Q.getD i [] ++ [x])) : ∀ (m : Nat) (w : List Nat) (i : Nat), i < Q.length → lgE Q w (Q.getD i []) → w.length + m ≤ 8 → frS S m w = pth nx S.1 m i := by
  intro m
  induction m with
  | zero => intro w i _ _ _; rfl
  | succ m ih =>
    intro w i hi hw hl
    rw [frS, pth]
    refine foldl_congr' _ (fun a x hx => ?_) 0
    rw [List.mem_range] at hx
    have hx2 := hnx i x hi hx
    have he := lgE_end hQ hne hw (x := x) (by omega)
    cases hn : nx i x with
    | none =>
      rw [hn] at hx2
      rw [if_pos (endB_iff.mpr (he.mpr hx2))]
    | some j =>
      rw [hn] at hx2
      obtain ⟨j1, j2, j3⟩ := hx2
      rw [if_neg (fun hb => j2 (he.mp (endB_iff.mp hb)))]
      simp only []
      rw [ih (w ++ [x]) j j1 (lgE_next hQ hw j3) (by rw [List.length_append]; show w.length + 1 + m ≤ 8; omega)]
/-- sums over states of ways times ways on -/
def dot (n : Nat) (f g : Nat → Nat) : Nat := (List.range n).foldl (fun a i => a + f i * g i) 0
theorem fold_add (l : List Nat) (f : Nat → Nat) : ∀ c, l.foldl (fun a i => a + f i) c = c + (l.map f).sum := by
  induction l with
  | nil => intro c; simp
  | cons x l ih => intro c; rw [List.foldl_cons, ih, List.map_cons, List.sum_cons]; omega
theorem dot_eq (n : Nat) (f g : Nat → Nat) : dot n f g = ((List.range n).map (fun i => f i * g i)).sum := by
  unfold dot
  rw [fold_add (List.range n) (fun i => f i * g i), Nat.zero_add]
/-- one more way into a state -/
theorem dot_upd {n j v : Nat} (hj : j < n) (f g : Nat → Nat) : dot n (fun i => if i = j then f i + v else f i) g = dot n f g + v * g j := by
  rw [dot_eq, dot_eq]
  have key : ∀ k, k ≤ n → ((List.range k).map (fun i => (if i = j then f i + v else f i) * g i)).sum = ((List.range k).map (fun i => f i * g i)).sum + (if j < k then v * g j else 0) := by
    intro k
    induction k with
    | zero => intro _; simp
    | succ k ih =>
      intro hk
      rw [List.range_succ, List.map_append, List.map_append, List.sum_append, List.sum_append, ih (by omega)]
      simp only [List.map_cons, List.map_nil, List.sum_cons, List.sum_nil, Nat.add_zero]
      by_cases c : k = j
      · subst c
        rw [if_pos rfl, if_neg (by omega), if_pos (by omega), Nat.add_mul]
        omega
      · rw [if_neg c]
        by_cases c2 : j < k
        · rw [if_pos c2, if_pos (by omega)]; omega
        · rw [if_neg c2, if_neg (by omega)]; omega
  rw [key n (Nat.le_refl _), if_pos hj]
