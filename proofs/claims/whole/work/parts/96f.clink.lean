/-! FREE in the class: the next states -/
/-- the first end that is a state -/
def fsO (Q : List (List Nat)) (w : List Nat) : Nat → Option Nat
  | 0 => none
  | k + 1 => match fsO Q w k with
    | some j => some j
    | none => stO Q (w.drop k)
theorem fsO_lg {Q : List (List Nat)} {w : List Nat} : ∀ k j, fsO Q w k = some j → ∃ i, i < k ∧ stO Q (w.drop i) = some j ∧ ∀ i', i' < i → w.drop i' ∉ Q := by
  intro k
  have hn : ∀ k, fsO Q w k = none → ∀ i, i < k → w.drop i ∉ Q := by
    intro k
    induction k with
    | zero => intro _ i hi; omega
    | succ k ih =>
      intro e i hi
      rw [fsO] at e
      cases ek : fsO Q w k with
      | some j => rw [ek] at e; simp at e
      | none =>
        rw [ek] at e
        by_cases c : i = k
        · subst c; exact stO_none e
        · exact ih ek i (by omega)
  induction k with
  | zero => intro j e; simp [fsO] at e
  | succ k ih =>
    intro j e
    rw [fsO] at e
    cases ek : fsO Q w k with
    | some j' =>
      rw [ek] at e
      simp only [Option.some.injEq] at e
      subst e
      obtain ⟨i, h1, h2⟩ := ih j' ek
      exact ⟨i, by omega, h2⟩
    | none =>
      rw [ek] at e
      exact ⟨k, by omega, e, fun i' hi' => hn k ek i' hi'⟩
theorem suf_drop {v w : List Nat} (hv : v <:+ w) : ∃ i, i ≤ w.length ∧ v = w.drop i := by
  obtain ⟨t, rfl⟩ := hv
  exact ⟨t.length, by rw [List.length_append]; omega, by rw [List.drop_left]⟩
theorem fsO_full {Q : List (List Nat)} {w : List Nat} (h0 : [] ∈ Q) : ∃ j, fsO Q w (w.length + 1) = some j ∧ j < Q.length ∧ lgE Q w (Q.getD j []) := by
  have hs : ∃ j, fsO Q w (w.length + 1) = some j := by
    rw [fsO]
    cases ek : fsO Q w w.length with
    | some j => exact ⟨j, rfl⟩
    | none =>
      rw [List.drop_length]
      cases e : stO Q [] with
      | some j => exact ⟨j, rfl⟩
      | none => exact absurd h0 (stO_none e)
  obtain ⟨j, e⟩ := hs
  obtain ⟨i, h1, h2, h3⟩ := fsO_lg _ _ e
  obtain ⟨g1, g2⟩ := stO_some h2
  refine ⟨j, e, g1, ?_, getD_mem g1, fun v hv hvQ => ?_⟩
  · rw [g2]; exact List.drop_suffix _ _
  · obtain ⟨i', hi', rfl⟩ := suf_drop hv
    rw [g2]
    by_cases c : i' < i
    · exact absurd hvQ (h3 i' c)
    · refine suf_len (List.drop_suffix _ _) (List.drop_suffix _ _) ?_
      rw [List.length_drop, List.length_drop]; omega
section FC2
variable {h : Nat} {s : Mm} {S : Sys} {Q : List (List Nat)}
def nxS (S : Sys) (Q : List (List Nat)) (w : List Nat) : Option Nat := if endB S w = true then none else fsO Q w (w.length + 1)
theorem c_nextStep (hS : WfS S) (hR : RS s 3 S) (hA : AV s S.1 Q) {w : List Nat} (hw : Ww w) {k : Nat} (hk : k ≤ w.length) : fLX1_nextOf_5 (M h s) (h + 272) (i64 (cw w : Int)) (i32 (oI (fsO Q w k)), i32 (k : Int)) = some (if ∃ r, r < nr S ∧ rl S r = w.drop k then .inr (.inl ()) else .inl (i32 (oI (fsO Q w (k + 1))), i32 ((k + 1 : Nat) : Int))) := by
  have hK := hS.1.2
  have h16 := hw.1
  have h85 := hA.2.1
  unfold fLX1_nextOf_5
  rw [c_len hw, sb, if_neg (by rw [lt32 (by omega) (by omega) (by omega) (by omega)]; omega), sb, s32, show ((w.length : Int) - (k : Int)) = ((w.length - k : Nat) : Int) by omega, c_part hw (by omega), sb, o_272, sb, List.take_of_length_le (by rw [List.length_drop]; omega), c_isLeft hS hR (hw.drop k), sb]
  by_cases c : ∃ r, r < nr S ∧ rl S r = w.drop k
  · rw [if_pos c, if_pos c, if_neg (by decide)]
  · rw [if_neg c, if_neg c, if_pos rfl]
    have ef : fsO Q w (k + 1) = match fsO Q w k with
      | some j => some j
      | none => stO Q (w.drop k) := rfl
    cases e : fsO Q w k with
    | some j =>
      obtain ⟨i, -, h2, -⟩ := fsO_lg k j e
      have := (stO_some h2).1
      rw [ef, e, if_neg (by rw [qm1]; unfold oI; simp only []; rw [eq32 (by omega) (by omega) (by omega) (by omega)]; omega), xlet_eq, q1, a32]; rfl
    | none =>
      rw [ef, e, if_pos (show i32 (oI none) = -1 from rfl), sb, c_stateOf hK hA (hw.drop k), sb, xlet_eq, q1, a32]; rfl
theorem c_nextOf (hS : WfS S) (hR : RS s 3 S) (hA : AV s S.1 Q) {w : List Nat} (hw : Ww w) : fX1_nextOf (M h s) (h + 272) (i64 (cw w : Int)) = some (i32 (oI (nxS S Q w))) := by
  have h16 := hw.1
  unfold fX1_nextOf nxS
  by_cases c : endB S w = true
  · rw [if_pos c]
    obtain ⟨r, hr, hs⟩ := endB_iff.mp c
    obtain ⟨i, hi, ei⟩ := suf_drop hs
    cases e : (List.range (w.length + 1)).find? (fun k => decide (∃ r, r < nr S ∧ rl S r = w.drop k)) with
    | none =>
      have := find_none e i (by omega)
      rw [decide_eq_false_iff_not] at this
      exact absurd ⟨r, hr, ei⟩ this
    | some k =>
      obtain ⟨k1, k2, k3⟩ := find_some e
      rw [iter_to k (fun k => (i32 (oI (fsO Q w k)), i32 (k : Int))) (show ((-1 : Int32), (0 : Int32)) = _ from rfl) ?_ (b := .inl ()) ?_, sb]
      · rfl
      · intro j hj
        rw [c_nextStep hS hR hA hw (by omega), if_neg (by have := k3 j hj; rw [decide_eq_false_iff_not] at this; exact this)]
      · rw [c_nextStep hS hR hA hw (by omega), if_pos (of_decide_eq_true k2)]
  · rw [if_neg c, iter_to (w.length + 1) (fun k => (i32 (oI (fsO Q w k)), i32 (k : Int))) (show ((-1 : Int32), (0 : Int32)) = _ from rfl) ?_ (b := .inr (i32 (oI (fsO Q w (w.length + 1))))) ?_, sb]
    · intro j hj
      rw [c_nextStep hS hR hA hw (by omega), if_neg (fun ⟨r, hr, er⟩ => c (endB_iff.mpr ⟨r, hr, by rw [er]; exact List.drop_suffix _ _⟩))]
    · unfold fLX1_nextOf_5
      rw [c_len hw, sb, if_pos (by rw [lt32 (by omega) (by omega) (by omega) (by omega)]; omega)]
end FC2
