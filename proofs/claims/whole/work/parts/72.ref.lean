/-! THE REFERENCE: its row, weights, the order, steps -/
def RR (f : Nat → Int64) (S : Sys) : Prop := f 0 = i64 (S.1 : Int) ∧ f 1 = i64 (nr S : Int) ∧ (∀ x, x < 5 → f (2 + x) = i64 (S.2.2.1 x : Int)) ∧ (∀ k, k < S.1 → ∃ y, y < S.1 ∧ f (7 + k) = i64 (y : Int) ∧ S.2.2.2 y = k) ∧ (∀ r, r < nr S → f (12 + r) = i64 (r6 (rl S r) : Int)) ∧ (∀ r, r < nr S → f (24 + r) = i64 (r6 (rr S r) : Int))
/-- what the reference's working cells may have become: the fields I (ints) and L (longs) of its object, the cells lo to hi -/
def Rf (I L : List Nat) (lo hi : Nat) (s s' : Mm) : Prop := (∀ i, i ≠ 308 → ¬ (lo ≤ i ∧ i ≤ hi) → s'.1 i = s.1 i ∧ s'.2 i = s.2 i) ∧ (∀ j, j ∉ I → s'.1 308 j = s.1 308 j) ∧ (∀ j, j ∉ L → s'.2 308 j = s.2 308 j)
theorem Rf.rf {I L : List Nat} {lo hi : Nat} {s : Mm} : Rf I L lo hi s s := ⟨fun _ _ _ => ⟨rfl, rfl⟩, fun _ _ => rfl, fun _ _ => rfl⟩
theorem Rf.tr {I L : List Nat} {lo hi : Nat} {s s' s'' : Mm} (h1 : Rf I L lo hi s s') (h2 : Rf I L lo hi s' s'') : Rf I L lo hi s s'' :=
  ⟨fun i a b => ⟨(h2.1 i a b).1.trans (h1.1 i a b).1, (h2.1 i a b).2.trans (h1.1 i a b).2⟩, fun j hj => (h2.2.1 j hj).trans (h1.2.1 j hj), fun j hj => (h2.2.2 j hj).trans (h1.2.2 j hj)⟩
theorem Rf.mono {I L I' L' : List Nat} {lo hi lo' hi' : Nat} {s s' : Mm} (h : Rf I L lo hi s s') (h1 : ∀ j ∈ I, j ∈ I') (h2 : ∀ j ∈ L, j ∈ L') (h3 : lo' ≤ lo ∧ hi ≤ hi' ∨ hi < lo) : Rf I' L' lo' hi' s s' :=
  ⟨fun i a b => h.1 i a (by omega), fun j hj => h.2.1 j (fun hc => hj (h1 j hc)), fun j hj => h.2.2 j (fun hc => hj (h2 j hc))⟩
theorem Rf.fI {I L : List Nat} {lo hi : Nat} {s s' : Mm} (h : Rf I L lo hi s s') {j : Nat} {v : Int32} (hj : j ∈ I) : Rf I L lo hi s (mI s' 308 (upd (s'.1 308) j v)) :=
  ⟨fun i a b => ⟨by rw [mI_ne a]; exact (h.1 i a b).1, (h.1 i a b).2⟩, fun t ht => by rw [mI_at, upd_ne (t := t) (j := j) (fun e => ht (e ▸ hj))]; exact h.2.1 t ht, h.2.2⟩
theorem Rf.fL {I L : List Nat} {lo hi : Nat} {s s' : Mm} (h : Rf I L lo hi s s') {j : Nat} {v : Int64} (hj : j ∈ L) : Rf I L lo hi s (mL s' 308 (vp_updL (s'.2 308) j v)) :=
  ⟨fun i a b => ⟨(h.1 i a b).1, by rw [mL_ne a]; exact (h.1 i a b).2⟩, h.2.1, fun t ht => by rw [mL_at, updL_ne (t := t) (j := j) (fun e => ht (e ▸ hj))]; exact h.2.2 t ht⟩
theorem Rf.mI {I L : List Nat} {lo hi : Nat} {s s' : Mm} (h : Rf I L lo hi s s') {i : Nat} {f : Nat → Int32} (h0 : i ≠ 308) (h1 : lo ≤ i) (h2 : i ≤ hi) : Rf I L lo hi s (mI s' i f) :=
  ⟨fun j a b => ⟨by rw [mI_ne (fun e => b (by omega))]; exact (h.1 j a b).1, (h.1 j a b).2⟩, fun t ht => by rw [mI_ne (Ne.symm h0)]; exact h.2.1 t ht, h.2.2⟩
theorem Rf.mL {I L : List Nat} {lo hi : Nat} {s s' : Mm} (h : Rf I L lo hi s s') {i : Nat} {f : Nat → Int64} (h0 : i ≠ 308) (h1 : lo ≤ i) (h2 : i ≤ hi) : Rf I L lo hi s (mL s' i f) :=
  ⟨fun j a b => ⟨(h.1 j a b).1, by rw [mL_ne (fun e => b (by omega))]; exact (h.1 j a b).2⟩, h.2.1, fun t ht => by rw [mL_ne (Ne.symm h0)]; exact h.2.2 t ht⟩
theorem Rf.I {I L : List Nat} {lo hi : Nat} {s s' : Mm} (h : Rf I L lo hi s s') (i : Nat) (h0 : i ≠ 308) (h1 : ¬ (lo ≤ i ∧ i ≤ hi)) : s'.1 i = s.1 i := (h.1 i h0 h1).1
theorem Rf.L {I L : List Nat} {lo hi : Nat} {s s' : Mm} (h : Rf I L lo hi s s') (i : Nat) (h0 : i ≠ 308) (h1 : ¬ (lo ≤ i ∧ i ≤ hi)) : s'.2 i = s.2 i := (h.1 i h0 h1).2
theorem fold_rev (f : Nat → Nat) (w : List Nat) (c : Nat) : (List.range w.length).foldl (fun a k => a + f (w.getD (w.length - 1 - k) 0)) c = c + (w.map f).sum := by
  have e := fold_sum f w.reverse c
  rw [List.length_reverse, List.map_reverse, List.sum_reverse_nat] at e
  rw [← e]
  refine foldl_congr' _ (fun a k hk => ?_) c
  rw [List.mem_range] at hk
  rw [List.getD_eq_getElem?_getD, List.getD_eq_getElem?_getD, List.getElem?_reverse hk]
theorem Q6n : (6 : Int64) = i64 ((6 : Nat) : Int) := by decide
theorem cmp_anti {S : Sys} (hS : WfS S) {a b : List Nat} (ha : Wk S.1 a) (hb : Wk S.1 b) : cmpS S a b = - cmpS S b a := by
  have hf : fdiff a b = fdiff b a := by
    unfold fdiff
    rw [Nat.min_comm]
    congr 1
    funext k
    exact Bool.eq_iff_iff.mpr ⟨fun h => by rw [bne_iff_ne] at *; exact fun e => h e.symm, fun h => by rw [bne_iff_ne] at *; exact fun e => h e.symm⟩
  unfold cmpS
  by_cases c1 : wg S a = wg S b
  · rw [if_pos c1, if_pos c1.symm, ← hf]
    cases hk : fdiff a b with
    | none => rfl
    | some k =>
      simp only []
      unfold fdiff at hk
      obtain ⟨h1, h2, -⟩ := find_some hk
      rw [bne_iff_ne] at h2
      have e1 := ha.2 _ (getD_mem (d := 0) (show k < a.length by omega))
      have e2 := hb.2 _ (getD_mem (d := 0) (show k < b.length by omega))
      have h3 : S.2.2.2 (a.getD k 0) ≠ S.2.2.2 (b.getD k 0) := fun e => h2 (hS.2.2.2.2.2 _ _ e1 e2 e)
      by_cases c2 : S.2.2.2 (b.getD k 0) < S.2.2.2 (a.getD k 0)
      · rw [if_pos c2, if_neg (by omega)]; rfl
      · rw [if_neg c2, if_pos (by omega)]
  · rw [if_neg c1, if_neg (show ¬ wg S b = wg S a from fun e => c1 e.symm)]
    by_cases c2 : wg S b < wg S a
    · rw [if_pos c2, if_neg (by omega)]; rfl
    · rw [if_neg c2, if_pos (by omega)]
theorem wg_pos {S : Sys} (hS : WfS S) {w : List Nat} (hw : ∀ x ∈ w, x < 5) (h : w ≠ []) : 1 ≤ wg S w := by
  cases w with
  | nil => exact absurd rfl h
  | cons x w =>
    have := (hS.2.2.2.1 x (hw x (by simp))).1
    unfold wg
    rw [List.map_cons, List.sum_cons]
    omega
theorem fd_pre {S : Sys} (hS : WfS S) {a b : List Nat} (hb : Ww b) (hl : a.length ≤ b.length) (hk : ∀ k, k < a.length → a.getD k 0 = b.getD k 0) (he : wg S a = wg S b) : a = b := by
  have e1 : a = b.take a.length := by
    apply List.ext_getElem (by rw [List.length_take]; omega)
    intro k h1 h2
    have := hk k h1
    rw [List.getD_eq_getElem?_getD, List.getD_eq_getElem?_getD, List.getElem?_eq_getElem h1, List.getElem?_eq_getElem (by omega)] at this
    rw [List.getElem_take]
    exact this
  have e2 : wg S b = wg S (b.take a.length) + wg S (b.drop a.length) := by
    unfold wg
    rw [← List.sum_append, ← List.map_append, List.take_append_drop]
  rw [← e1] at e2
  by_cases c : b.drop a.length = []
  · have := congrArg List.length c
    rw [List.length_drop, List.length_nil] at this
    rw [e1, List.take_of_length_le (by omega)]
  · have := wg_pos hS (w := b.drop a.length) (fun x hx => hb.2 x (List.mem_of_mem_drop hx)) c
    omega
theorem fd_some {S : Sys} (hS : WfS S) {a b : List Nat} (ha : Ww a) (hb : Ww b) (hne : a ≠ b) (he : wg S a = wg S b) : ∃ k, fdiff a b = some k := by
  cases hf : fdiff a b with
  | some k => exact ⟨k, rfl⟩
  | none =>
    exfalso
    unfold fdiff at hf
    have h1 := find_none hf
    have h2 : ∀ k, k < min a.length b.length → a.getD k 0 = b.getD k 0 := fun k hk => by
      have := h1 k hk
      simpa using this
    rcases Nat.le_total a.length b.length with c | c
    · exact hne (fd_pre hS hb c (fun k hk => h2 k (by omega)) he)
    · exact hne (fd_pre hS ha c (fun k hk => (h2 k (by omega)).symm) he.symm).symm
section RF
variable {h : Nat} {s : Mm} {S : Sys} {w a b : List Nat}
theorem r_rules (hR : RR (s.2 309) S) : fX12_rules (M h s) (h + 308) = some (i32 (nr S : Int)) := by
  unfold fX12_rules
  rw [g_308_1, sb, q1, a_309 (by decide) (by decide), sb]
  show some ((s.2 309 1).toInt32) = _
  rw [hR.2.1, toI]
theorem r_letters (hR : RR (s.2 309) S) : fX12_letters (M h s) (h + 308) = some (i32 (S.1 : Int)) := by
  unfold fX12_letters
  rw [g_308_1, sb, q0, a_309 (by decide) (by decide), sb]
  show some ((s.2 309 0).toInt32) = _
  rw [hR.1, toI]
theorem r_left (hS : WfS S) (hR : RR (s.2 309) S) {r : Nat} (hr : r < nr S) : fX12_leftOf (M h s) (h + 308) (i32 (r : Int)) = some (i64 (r6 (rl S r) : Int)) := by
  have := hS.2.1
  unfold fX12_leftOf
  rw [g_308_1, sb, q12, a32, a_309 (by omega) (by omega), sb, show ((12 : Int) + (r : Int)).toNat = 12 + r by omega, hR.2.2.2.2.1 r hr]
theorem r_right (hS : WfS S) (hR : RR (s.2 309) S) {r : Nat} (hr : r < nr S) : fX12_rightOf (M h s) (h + 308) (i32 (r : Int)) = some (i64 (r6 (rr S r) : Int)) := by
  have := hS.2.1
  unfold fX12_rightOf
  rw [g_308_1, sb, q24, a32, a_309 (by omega) (by omega), sb, show ((24 : Int) + (r : Int)).toNat = 24 + r by omega, hR.2.2.2.2.2 r hr]
theorem r_weight (hR : RR (s.2 309) S) (hw : Ww w) : fX12_weightOf (M h s) (h + 308) (i64 (r6 w : Int)) = some (i32 (wg S w : Int)) := by
  have hb := r6_16 hw
  have h16 := hw.1
  unfold fX12_weightOf
  rw [loop_fold (fun a k => a + S.2.2.1 (w.getD (w.length - 1 - k) 0)) (fun a k => (i32 (a : Int), i64 ((r6 w / 6 ^ k : Nat) : Int))) (fun a => i32 (a : Int)) w.length ?_ ?_ (a := 0) (by rw [Nat.pow_zero, Nat.div_one]; rfl), sb, fold_rev, Nat.zero_add]
  · rfl
  · intro a k hk
    obtain ⟨h1, h2, h3⟩ := r6_step hw hk
    have h4 := Nat.div_le_self (r6 w) (6 ^ k)
    have hx := hw.2 _ (List.getElem_mem (show w.length - 1 - k < w.length by omega))
    have hg : w.getD (w.length - 1 - k) 0 = w[w.length - 1 - k] := by
      rw [List.getD_eq_getElem?_getD, List.getElem?_eq_getElem (by omega)]; rfl
    unfold fLX12_weightOf_5
    rw [if_neg (by rw [cmple, t64 (by omega) (by omega)]; simp only [Int64.toInt_zero]; omega), g_308_1, sb]
    simp only []
    rw [Q6n, rem64 (by omega) (by decide), h3, toI, q2, a32, q1, s32, a_309 (by omega) (by omega), sb, xlet_eq, xlet_eq, div64 (by omega) (by decide), h2]
    rw [show ((2 : Int) + ((w[w.length - 1 - k] + 1 : Nat) : Int) - 1).toNat = 2 + w[w.length - 1 - k] by omega, hR.2.2.1 _ hx, toI, a32, hg]; rfl
  · intro a
    unfold fLX12_weightOf_5
    rw [r6_end hw, if_pos (by show lg_cmp (i64 ((0 : Nat) : Int)) 0 ≤ 0; decide)]
theorem r_order (hS : WfS S) (hR : RR (s.2 309) S) {x : Nat} (hx : x < S.1) : fX12_orderOf (M h s) (h + 308) (i32 (x : Int)) = some (i32 (S.2.2.2 x : Int)) := by
  have hK := hS.1.2
  have hr := hS.2.2.2.2.1 x hx
  unfold fX12_orderOf
  rw [iter_to (S.2.2.2 x) (fun k => i32 (k : Int)) (show (0 : Int32) = _ from rfl) ?_ ?_ (b := i32 (S.2.2.2 x : Int)), sb]
  · intro k hk
    obtain ⟨y, y1, y2, y3⟩ := hR.2.2.2.1 k (by omega)
    unfold fLX12_orderOf_2
    rw [g_308_1, sb, q7, a32, a_309 (by omega) (by omega), sb, show ((7 : Int) + (k : Int)).toNat = 7 + k by omega, y2, toL (by omega) (by omega), if_neg (by
      rw [cmp0, eq64 (by omega) (by omega) (by omega) (by omega)]
      intro e
      have : y = x := by omega
      subst this
      omega), xlet_eq, q1, a32]; rfl
  · obtain ⟨y, y1, y2, y3⟩ := hR.2.2.2.1 (S.2.2.2 x) hr
    have : y = x := hS.2.2.2.2.2 y x y1 hx y3
    subst this
    unfold fLX12_orderOf_2
    rw [g_308_1, sb, q7, a32, a_309 (by omega) (by omega), sb, show ((7 : Int) + (S.2.2.2 y : Int)).toNat = 7 + S.2.2.2 y by omega, y2, toL (by omega) (by omega), if_pos (by rw [cmp0])]
theorem r_cmp (hS : WfS S) (hR : RR (s.2 309) S) (ha : Wk S.1 a) (hb : Wk S.1 b) : fX12_compared (M h s) (h + 308) (i64 (r6 a : Int)) (i64 (r6 b : Int)) = some (i32 (cmpS S a b)) := by
  have hA := ha.ww hS.1.2
  have hB := hb.ww hS.1.2
  have h1 := wg_le hS hA
  have h2 := wg_le hS hB
  have h3 := hA.1
  have h4 := hB.1
  have hK := hS.1.2
  unfold fX12_compared
  by_cases c0 : a = b
  · subst c0
    rw [if_pos (by rw [cmp0])]
    have hn : fdiff a a = none := by
      unfold fdiff
      rw [List.find?_eq_none]
      intro k _
      simp
    unfold cmpS
    rw [if_pos rfl, hn]; rfl
  · rw [if_neg (by rw [cmp0, r6e hA hB]; exact c0)]
    simp only [o_308, sb, r_weight hR hA, r_weight hR hB, xlet_eq, r_len hA, r_len hB, s32, imin_of (show a.length ≤ 2147483647 by omega) (show b.length ≤ 2147483647 by omega)]
    unfold cmpS
    by_cases c1 : wg S a = wg S b
    · obtain ⟨k0, hk0⟩ := fd_some hS hA hB c0 c1
      rw [if_pos c1, hk0]
      unfold fdiff at hk0
      obtain ⟨e1, e2, e3⟩ := find_some hk0
      rw [bne_iff_ne] at e2
      have x1 := ha.2 _ (getD_mem (d := 0) (show k0 < a.length by omega))
      have x2 := hb.2 _ (getD_mem (d := 0) (show k0 < b.length by omega))
      have y1 := hS.2.2.2.2.1 _ x1
      have y2 := hS.2.2.2.2.1 _ x2
      have y3 : S.2.2.2 (a.getD k0 0) ≠ S.2.2.2 (b.getD k0 0) := fun e => e2 (hS.2.2.2.2.2 _ _ x1 x2 e)
      have hstep : ∀ k, k ≤ k0 → fLX12_compared_37 (M h s) (h + 308) (i64 (r6 a : Int)) (i64 (r6 b : Int)) (i32 ((min a.length b.length : Nat) : Int)) (i32 0, i32 (k : Int)) = some (.inl (i32 ((S.2.2.2 (a.getD k 0) : Int) - (S.2.2.2 (b.getD k 0) : Int)), i32 ((k + 1 : Nat) : Int))) := by
        intro k hk
        have z1 := ha.2 _ (getD_mem (d := 0) (show k < a.length by omega))
        have z2 := hb.2 _ (getD_mem (d := 0) (show k < b.length by omega))
        unfold fLX12_compared_37
        rw [if_neg (by rw [le32 (by omega) (by omega) (by omega) (by omega)]; omega), if_pos (show (i32 0, i32 (k : Int)).1 = 0 from rfl)]
        simp only [r_let hA (show k < a.length by omega), r_let hB (show k < b.length by omega), sb, o_308, ltr_of (show k < a.length by omega), ltr_of (show k < b.length by omega), r_order hS hR z1, r_order hS hR z2, xlet_eq, s32, q1, a32]
        rfl
      rw [iter_to (k0 + 1) (fun k => (if k = k0 + 1 then i32 ((S.2.2.2 (a.getD k0 0) : Int) - (S.2.2.2 (b.getD k0 0) : Int)) else i32 0, i32 (k : Int))) (by rw [if_neg (by omega), show ((wg S a : Int) - (wg S b : Int)) = 0 by omega]; rfl) ?_ ?_ (b := i32 ((S.2.2.2 (a.getD k0 0) : Int) - (S.2.2.2 (b.getD k0 0) : Int))), sb]
      · by_cases c2 : S.2.2.2 (b.getD k0 0) < S.2.2.2 (a.getD k0 0)
        · rw [if_neg (by rw [q0]; rw [le32 (by omega) (by omega) (by omega) (by omega)]; omega)]; simp only [c2, if_true]; rfl
        · rw [if_pos (by rw [q0]; rw [le32 (by omega) (by omega) (by omega) (by omega)]; omega)]; simp only [c2, if_false]; rfl
      · intro k hk
        rw [if_neg (by omega), hstep k (by omega)]
        by_cases c2 : k = k0
        · subst c2
          rw [if_pos rfl]
        · rw [if_neg (by omega)]
          have := e3 k (by omega)
          rw [bne_eq_false_iff_eq] at this
          rw [this, Int.sub_self]
      · rw [if_pos rfl]
        unfold fLX12_compared_37
        by_cases c2 : min a.length b.length ≤ k0 + 1
        · rw [if_pos (by rw [le32 (by omega) (by omega) (by omega) (by omega)]; omega)]
        · rw [if_neg (by rw [le32 (by omega) (by omega) (by omega) (by omega)]; omega), if_neg (by simp only []; rw [q0]; rw [eq32 (by omega) (by omega) (by omega) (by omega)]; omega)]
    · rw [if_neg c1]
      rw [iter_to 0 (fun k => (i32 ((wg S a : Int) - (wg S b : Int)), i32 (k : Int))) (show (_, (0 : Int32)) = _ from rfl) (fun k hk => absurd hk (by omega)) ?_ (b := i32 ((wg S a : Int) - (wg S b : Int))), sb]
      · by_cases c2 : wg S b < wg S a
        · rw [if_neg (by rw [q0]; rw [le32 (by omega) (by omega) (by omega) (by omega)]; omega), if_pos c2]; rfl
        · rw [if_pos (by rw [q0]; rw [le32 (by omega) (by omega) (by omega) (by omega)]; omega), if_neg c2]; rfl
      · unfold fLX12_compared_37
        by_cases c2 : min a.length b.length ≤ 0
        · rw [if_pos (by rw [le32 (by omega) (by omega) (by omega) (by omega)]; omega)]
        · rw [if_neg (by rw [le32 (by omega) (by omega) (by omega) (by omega)]; omega), if_neg (by simp only []; rw [q0]; rw [eq32 (by omega) (by omega) (by omega) (by omega)]; omega)]
end RF
