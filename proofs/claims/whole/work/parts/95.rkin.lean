/-! HEADS and KIN in the reference -/
section RF
variable {h : Nat} {s : Mm} {S : Sys}
theorem r_ok {v : Int32} (h0 : s.1 308 0 = 0) : fX12_right (M h s) (h + 308) 1 v = some (1, M h s) := by
  unfold fX12_right
  rw [g_308_0, sb, h0, if_pos rfl, if_neg (by decide), sb, if_pos rfl]
theorem r_no {v : Int32} (h0 : s.1 308 0 = 0) (hv : ¬ v = 0) : fX12_right (M h s) (h + 308) 0 v = some (0, M h (mI s 308 (upd (s.1 308) 0 v))) := by
  unfold fX12_right
  rw [g_308_0, sb, h0, if_pos rfl, if_pos rfl, w_308_0, sb, g_308_0, sb, mI_at, upd_at, if_neg hv]
theorem r_head (hS : WfS S) (hR : RR (s.2 309) S) (h0 : s.1 308 0 = 0) {r : Nat} (hr : r < nr S) {k : Nat} (hk : k ≤ 2147483000) (o : Bool) : ∃ s' : Mm, fJX12_head_m_23 (M h s) (h + 308) (i32 (r : Int)) (i32 (b32i o)) (i32 (k : Int)) 1 (h + 308) = some (i32 (ltr (if o then (hd (rl S r) (rr S r)).drop (rl S r).length else (hd (rl S r) (rr S r)).take (rl S r).length) k), M h s') ∧ (∀ i, i ≠ 308 → ¬ (321 ≤ i ∧ i ≤ 323) → s'.1 i = s.1 i) ∧ s'.2 = s.2 ∧ ∀ j, j ≠ 39 → s'.1 308 j = s.1 308 j := by
  have hl := wl hS hr
  have hrr := wr hS hr
  have h16 := hl.1
  have h16r := hrr.1
  obtain ⟨s1, a1, ⟨a2, a3, a4⟩, a5⟩ := r_laysHead (h := h) hS hR (Or.inl rfl) hr false
  have hR1 : RR (s1.2 309) S := by rw [a5.2.1]; exact hR
  obtain ⟨s2, b1, ⟨b2, b3, b4⟩, b5⟩ := r_laysHead (h := h) hS hR1 (Or.inr rfl) hr true
  have hR2 : RR (s2.2 309) S := by rw [b5.2.1]; exact hR1
  have lA := hA_len (rl S r) (rr S r)
  have lB := hB_len (rl S r) (rr S r)
  have hone : ∀ j, j < (rl S r).length + (rr S r).length → s2.1 322 j = i32 (((hA (rl S r) (rr S r)).getD j 0 : Nat) : Int) := fun j hj => by
    rw [b5.1 322 (by decide) (by decide) (by decide)]
    exact a4 j (by rw [List.length_append]; exact hj)
  have htwo : ∀ j, j < (rl S r).length + (rr S r).length → s2.1 323 j = i32 (((hB (rl S r) (rr S r)).getD j 0 : Nat) : Int) := fun j hj => by
    exact b4 j (by show j < ((rl S r).reverse ++ (rr S r).reverse).length; rw [List.length_append, List.length_reverse, List.length_reverse]; exact hj)
  have hmany : s2.1 308 39 = i32 (((rl S r).length + (rr S r).length : Nat) : Int) := by
    rw [b3]
    show i32 ((((rl S r).reverse ++ (rr S r).reverse).length : Nat) : Int) = _
    rw [List.length_append, List.length_reverse, List.length_reverse]
  have h5a : ∀ j, j < (rl S r).length + (rr S r).length → (hA (rl S r) (rr S r)).getD j 0 < 5 := fun j hj => getD_lt (cnn_5 (fun y hy => by
    rcases List.mem_append.mp hy with hy | hy
    · exact hl.2 y hy
    · exact hrr.2 y hy)) (by rw [lA]; exact hj)
  have h5b : ∀ j, j < (rl S r).length + (rr S r).length → (hB (rl S r) (rr S r)).getD j 0 < 5 := fun j hj => getD_lt (cnn_5 (fun y hy => by
    unfold rv at hy
    rcases List.mem_append.mp hy with hy | hy
    · exact hl.2 y (List.mem_reverse.mp hy)
    · exact hrr.2 y (List.mem_reverse.mp hy))) (by rw [lB]; exact hj)
  refine ⟨s2, ?_, ?_, by rw [b5.2.1, a5.2.1], fun j hj => (b5.2.2 j hj).trans (a5.2.2 j hj)⟩
  · have hsrch : iterP (fLX12_head_55 (M h s2) (h + 308) (i32 (r : Int)) (i32 (b32i o)) (i32 (k : Int))) 0 = some (i32 (((fdx (hA (rl S r) (rr S r)) (hB (rl S r) (rr S r))).getD ((rl S r).length + (rr S r).length) : Nat) : Int)) := by
      rw [loop_find (fun j => decide (¬ (hA (rl S r) (rr S r)).getD j 0 = (hB (rl S r) (rr S r)).getD j 0)) (fun j => i32 (j : Int)) (i32 (((rl S r).length + (rr S r).length : Nat) : Int)) (fun j => i32 (j : Int)) ((rl S r).length + (rr S r).length) ?_ ?_ (show (0 : Int32) = _ from rfl)]
      · unfold fdx
        rw [lA]
        cases (List.range ((rl S r).length + (rr S r).length)).find? (fun j => decide (¬ (hA (rl S r) (rr S r)).getD j 0 = (hB (rl S r) (rr S r)).getD j 0)) <;> rfl
      · intro j hj
        have e1 := h5a j hj
        have e2 := h5b j hj
        unfold fLX12_head_55
        rw [g_308_39, sb, hmany, if_neg (by rw [le32 (by omega) (by omega) (by omega) (by omega)]; omega), g_308_37, sb, a_322 (by omega) (by omega), tn0, sb, hone j hj, g_308_38, sb, a_323 (by omega) (by omega), tn0, sb, htwo j hj]
        by_cases c : (hA (rl S r) (rr S r)).getD j 0 = (hB (rl S r) (rr S r)).getD j 0
        · rw [if_pos (by rw [c]), xlet_eq, q1, a32, if_neg (by rw [decide_eq_true_eq]; exact fun hn => hn c)]; rfl
        · rw [if_neg (by rw [eq32 (by omega) (by omega) (by omega) (by omega)]; omega), if_pos (decide_eq_true c)]
      · unfold fLX12_head_55
        rw [g_308_39, sb, hmany, if_pos (by rw [le32 (by omega) (by omega) (by omega) (by omega)]; omega)]
    have a1 : fX12_laysHead (M h s) (h + 308) (h + 322) (i32 (r : Int)) 0 = some (M h s1) := a1
    have b1 : fX12_laysHead (M h s1) (h + 308) (h + 323) (i32 (r : Int)) 1 = some (M h s2) := b1
    -- the last: a letter of the lesser row
    have hpick : ∀ j, j < (rl S r).length + (rr S r).length → ∀ e : Int, e = (j : Int) → ((gI (M h s2) (h + 308) 11 39).bind fun v134 => if v134 ≤ i32 (((fdx (hA (rl S r) (rr S r)) (hB (rl S r) (rr S r))).getD ((rl S r).length + (rr S r).length) : Nat) : Int) then ((gR (M h s2) (h + 308) 11 37).bind fun v170 => (aI (M h s2) v170 0 (i32 e)).bind fun v177 => some (v177, M h s2)) else ((gR (M h s2) (h + 308) 11 38).bind fun v141 => (aI (M h s2) v141 0 (i32 (((fdx (hA (rl S r) (rr S r)) (hB (rl S r) (rr S r))).getD ((rl S r).length + (rr S r).length) : Nat) : Int))).bind fun v146 => (gR (M h s2) (h + 308) 11 37).bind fun v148 => (aI (M h s2) v148 0 (i32 (((fdx (hA (rl S r) (rr S r)) (hB (rl S r) (rr S r))).getD ((rl S r).length + (rr S r).length) : Nat) : Int))).bind fun v153 => if v153 ≤ v146 then ((gR (M h s2) (h + 308) 11 37).bind fun v170 => (aI (M h s2) v170 0 (i32 e)).bind fun v177 => some (v177, M h s2)) else ((gR (M h s2) (h + 308) 11 38).bind fun v158 => (aI (M h s2) v158 0 (i32 e)).bind fun v165 => some (v165, M h s2)))) = some (i32 (((hd (rl S r) (rr S r)).getD j 0 : Nat) : Int), M h s2) := by
      intro j hj e he
      subst he
      have r1 : aI (M h s2) (h + 322) 0 (i32 (j : Int)) = some (i32 (((hA (rl S r) (rr S r)).getD j 0 : Nat) : Int)) := by rw [a_322 (by omega) (by omega), tn0, hone j hj]
      have r2 : aI (M h s2) (h + 323) 0 (i32 (j : Int)) = some (i32 (((hB (rl S r) (rr S r)).getD j 0 : Nat) : Int)) := by rw [a_323 (by omega) (by omega), tn0, htwo j hj]
      unfold hd lessB
      cases hf : fdx (hA (rl S r) (rr S r)) (hB (rl S r) (rr S r)) with
      | none =>
        simp only [Option.getD_none]
        rw [g_308_39, sb, hmany, if_pos (by rw [le32 (by omega) (by omega) (by omega) (by omega)]; omega), g_308_37, sb, r1, sb]; rfl
      | some q =>
        unfold fdx at hf
        obtain ⟨q1', q2, -⟩ := find_some hf
        rw [lA] at q1'
        rw [decide_eq_true_eq] at q2
        have e1 := h5a q q1'
        have e2 := h5b q q1'
        have r3 : aI (M h s2) (h + 322) 0 (i32 (q : Int)) = some (i32 (((hA (rl S r) (rr S r)).getD q 0 : Nat) : Int)) := by rw [a_322 (by omega) (by omega), tn0, hone q q1']
        have r4 : aI (M h s2) (h + 323) 0 (i32 (q : Int)) = some (i32 (((hB (rl S r) (rr S r)).getD q 0 : Nat) : Int)) := by rw [a_323 (by omega) (by omega), tn0, htwo q q1']
        simp only [Option.getD_some]
        rw [g_308_39, sb, hmany, if_neg (by rw [le32 (by omega) (by omega) (by omega) (by omega)]; omega), g_308_38, sb, r4, sb, g_308_37, sb, r3, sb]
        by_cases c : (hB (rl S r) (rr S r)).getD q 0 < (hA (rl S r) (rr S r)).getD q 0
        · rw [if_neg (by rw [le32 (by omega) (by omega) (by omega) (by omega)]; omega), sb, r2, sb, if_pos (decide_eq_true c)]
        · rw [if_pos (by rw [le32 (by omega) (by omega) (by omega) (by omega)]; omega), sb, r1, sb, if_neg (by rw [decide_eq_true_eq]; exact c)]
    have hlenhd : (hd (rl S r) (rr S r)).length = (rl S r).length + (rr S r).length := by
      unfold hd
      split
      · exact lB
      · exact lA
    unfold fJX12_head_m_23
    rw [o_308, sb, r_ok h0, sb, if_neg (by show ¬ (1 : Int32) = 0; decide), g_308_37, sb, o_308, sb, a1, sb, g_308_38, sb, o_308, sb, b1, sb, hsrch, sb]
    unfold fJX12_head_m_87 fJX12_head_m_103 fJX12_head_m_123
    cases o with
    | false =>
      rw [if_pos (show i32 (b32i false) = 0 from by decide), if_pos (show i32 (b32i false) = 0 from by decide), o_308, sb, r_left hS hR2 hr, sb, r_len hl, sb]
      by_cases c : k < (rl S r).length
      · rw [if_pos (by rw [lt32 (by omega) (by omega) (by omega) (by omega)]; omega), q0, a32, hpick k (by omega) _ (by omega)]
        simp only [if_false, Bool.false_eq_true]
        rw [ltr_of (by rw [List.length_take]; omega), List.getD_eq_getElem?_getD, List.getD_eq_getElem?_getD, List.getElem?_take_of_lt c]
      · rw [if_neg (by rw [lt32 (by omega) (by omega) (by omega) (by omega)]; omega)]
        simp only [if_false, Bool.false_eq_true]
        unfold ltr
        rw [List.getElem?_eq_none (by rw [List.length_take]; omega)]; rfl
    | true =>
      rw [if_neg (show ¬ i32 (b32i true) = 0 from by decide), o_308, sb, r_left hS hR2 hr, sb, r_len hl, sb, if_neg (show ¬ i32 (b32i true) = 0 from by decide), sb, r_right hS hR2 hr, sb, r_len hrr, sb]
      by_cases c : k < (rr S r).length
      · rw [if_pos (by rw [lt32 (by omega) (by omega) (by omega) (by omega)]; omega), a32, hpick ((rl S r).length + k) (by omega) _ (by omega)]
        simp only [if_true]
        rw [ltr_of (by rw [List.length_drop]; omega), List.getD_eq_getElem?_getD, List.getD_eq_getElem?_getD, List.getElem?_drop]
      · rw [if_neg (by rw [lt32 (by omega) (by omega) (by omega) (by omega)]; omega)]
        simp only [if_true]
        unfold ltr
        rw [List.getElem?_eq_none (by rw [List.length_drop]; omega)]; rfl
  · intro i a b
    rw [b5.1 i a (by omega) (by omega), a5.1 i a (by omega) (by omega)]
/-! kin -/
/-- what the name of x is behind n places -/
def kv (A B : List Nat) (n x : Nat) : Int := match (List.range n).find? (fun i => decide (A.getD i 0 = x)) with
  | some i => ((B.getD i 0 : Nat) : Int)
  | none => -1
def okAt (A B : List Nat) (n : Nat) : Bool := ((List.range n).find? (fun i => decide (¬ (A.getD i 0 = A.getD n 0 ↔ B.getD i 0 = B.getD n 0)))).isNone
def patN (A B : List Nat) (n : Nat) : Prop := ∀ i j, i < n → j < n → (A.getD i 0 = A.getD j 0 ↔ B.getD i 0 = B.getD j 0)
theorem okAt_iff {A B : List Nat} {n : Nat} : okAt A B n = true ↔ ∀ i, i < n → (A.getD i 0 = A.getD n 0 ↔ B.getD i 0 = B.getD n 0) := by
  unfold okAt
  rw [Option.isNone_iff_eq_none]
  constructor
  · intro hn i hi
    have := find_none hn i hi
    rw [decide_eq_false_iff_not, Decidable.not_not] at this
    exact this
  · intro hall
    rw [List.find?_eq_none]
    intro i hi
    rw [decide_eq_true_eq, Decidable.not_not]
    exact hall i (List.mem_range.mp hi)
theorem patN_succ {A B : List Nat} {n : Nat} : patN A B (n + 1) ↔ patN A B n ∧ okAt A B n = true := by
  rw [okAt_iff]
  constructor
  · intro hp
    exact ⟨fun i j hi hj => hp i j (by omega) (by omega), fun i hi => hp i n (by omega) (by omega)⟩
  · rintro ⟨h1, h2⟩ i j hi hj
    by_cases ci : i = n
    · by_cases cj : j = n
      · subst ci; subst cj; exact ⟨fun _ => rfl, fun _ => rfl⟩
      · subst ci
        have := h2 j (by omega)
        exact ⟨fun e => (this.mp e.symm).symm, fun e => (this.mpr e.symm).symm⟩
    · by_cases cj : j = n
      · subst cj; exact h2 i (by omega)
      · exact h1 i j (by omega) (by omega)
end RF
