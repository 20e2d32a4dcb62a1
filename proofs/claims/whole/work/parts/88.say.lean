/-! LETTERS that stay as many; what is SAID -/
def occ (w : List Nat) (x : Nat) : Nat := (w.map (fun y => if y = x then 1 else 0)).sum
def cstB (S : Sys) (x : Nat) : Bool := ((List.range (nr S)).find? (fun r => decide (¬ occ (rl S r) x = occ (rr S r) x))).isNone
def conS (S : Sys) : Nat := (List.range S.1).foldl (fun b x => if cstB S x = true then b ||| (1 * 2 ^ x) else b) 0
theorem occ_le {w : List Nat} {x : Nat} : occ w x ≤ w.length := by
  have := sum_le (f := fun y => if y = x then 1 else 0) (c := 1) (w := w) (fun y _ => by show (if y = x then 1 else 0) ≤ 1; split <;> omega)
  unfold occ
  omega
section CC
variable {h : Nat} {s : Mm} {S : Sys} {w : List Nat}
theorem c_count (hw : Ww w) {x : Nat} (hx : x < 5) : fX10_countOf (i64 (cw w : Int)) (i32 (x : Int)) = some (i32 (occ w x : Int)) := by
  have h16 := hw.1
  unfold fX10_countOf
  rw [loop_fold (fun a k => a + (if w.getD k 0 = x then 1 else 0)) (fun a k => (i32 ((a : Nat) : Int), i32 (k : Int))) (fun a => i32 ((a : Nat) : Int)) w.length ?_ ?_ (a := 0) (show ((0 : Int32), (0 : Int32)) = _ from rfl), sb, fold_sum (fun y => if y = x then 1 else 0), Nat.zero_add]
  · rfl
  · intro a k hk
    have hl := getD_lt hw.2 hk
    unfold fLX10_countOf_5
    rw [c_len hw, sb, if_neg (by rw [le32 (by omega) (by omega) (by omega) (by omega)]; omega), c_let hw (k := k) (by omega), sb, ltr_of hk]
    by_cases c : w.getD k 0 = x
    · rw [if_pos (by rw [c]), xlet_eq, xlet_eq, q1, a32, a32, if_pos c]; rfl
    · rw [if_neg (by rw [eq32 (by omega) (by omega) (by omega) (by omega)]; omega), xlet_eq, q1, a32, if_neg c]; rfl
  · intro a
    unfold fLX10_countOf_5
    rw [c_len hw, sb, if_pos (by rw [le32 (by omega) (by omega) (by omega) (by omega)]; omega)]
theorem r_often (hw : Ww w) {x : Nat} (hx : x < 5) : fX12_often (i64 (r6 w : Int)) (i32 (x : Int)) = some (i32 (occ w x : Int)) := by
  have hb := r6_16 hw
  have h16 := hw.1
  unfold fX12_often
  rw [loop_fold (fun a k => a + (if w.getD (w.length - 1 - k) 0 = x then 1 else 0)) (fun a k => (i32 ((a : Nat) : Int), i64 ((r6 w / 6 ^ k : Nat) : Int))) (fun a => i32 ((a : Nat) : Int)) w.length ?_ ?_ (a := 0) (by rw [Nat.pow_zero, Nat.div_one]; rfl), sb, fold_rev (fun y => if y = x then 1 else 0), Nat.zero_add]
  · rfl
  · intro a k hk
    obtain ⟨h1, h2, h3⟩ := r6_step hw hk
    have h4 := Nat.div_le_self (r6 w) (6 ^ k)
    have hx' := hw.2 _ (List.getElem_mem (show w.length - 1 - k < w.length by omega))
    have hg : w.getD (w.length - 1 - k) 0 = w[w.length - 1 - k] := by
      rw [List.getD_eq_getElem?_getD, List.getElem?_eq_getElem (by omega)]; rfl
    unfold fLX12_often_5
    rw [if_neg (by rw [cmple, t64 (by omega) (by omega)]; simp only [Int64.toInt_zero]; omega)]
    simp only []
    rw [Q6n, rem64 (by omega) (by decide), h3, toL (by omega) (by omega), Q1, a64, hg]
    by_cases c : w[w.length - 1 - k] = x
    · rw [if_pos (by rw [cmp0, c]; rfl), xlet_eq, xlet_eq, q1, a32, div64 (by omega) (by decide), h2, if_pos c]; rfl
    · rw [if_neg (by rw [cmp0, eq64 (by omega) (by omega) (by omega) (by omega)]; omega), xlet_eq, xlet_eq, q0, a32, div64 (by omega) (by decide), h2, if_neg c, Int.add_zero]; rfl
  · intro a
    unfold fLX12_often_5
    rw [r6_end hw, if_pos (by show lg_cmp (i64 ((0 : Nat) : Int)) 0 ≤ 0; decide)]
theorem c_isConst (hS : WfS S) (hR : RS s 3 S) {x : Nat} (hx : x < 5) : fX8_isConstant (M h s) (h + 3) (i32 (x : Int)) = some (if cstB S x = true then 1 else 0) := by
  have h12 := hS.2.1
  unfold fX8_isConstant cstB
  rw [loop_find (fun r => decide (¬ occ (rl S r) x = occ (rr S r) x)) (fun r => i32 (r : Int)) (.inr ()) (fun _ => .inl ()) (nr S) ?_ ?_ (show (0 : Int32) = _ from rfl), sb]
  · cases (List.range (nr S)).find? (fun r => decide (¬ occ (rl S r) x = occ (rr S r) x)) <;> rfl
  · intro r hr
    have e1 := occ_le (w := rl S r) (x := x)
    have e2 := occ_le (w := rr S r) (x := x)
    have e3 := (wl hS hr).1
    have e4 := (wr hS hr).1
    unfold fLX8_isConstant_2
    rw [g_3_1, sb, hR.2.1, if_neg (by rw [le32 (by omega) (by omega) (by omega) (by omega)]; omega), g_3_2, sb, rdl hS hR hr, sb, c_count (wl hS hr) hx, sb, g_3_3, sb, rdr hS hR hr, sb, c_count (wr hS hr) hx, sb]
    by_cases c : occ (rl S r) x = occ (rr S r) x
    · rw [if_pos (by rw [c]), xlet_eq, q1, a32, if_neg (by simp [c])]; rfl
    · rw [if_neg (by rw [eq32 (by omega) (by omega) (by omega) (by omega)]; omega), if_pos (by simp [c])]
  · unfold fLX8_isConstant_2
    rw [g_3_1, sb, hR.2.1, if_pos (by rw [le32 (by omega) (by omega) (by omega) (by omega)]; omega)]
theorem c_constant (hS : WfS S) (hR : RS s 3 S) : fX11_constant (M h s) (h + 0) = some (i32 (conS S : Int)) := by
  have hK := hS.1.2
  unfold fX11_constant
  rw [loop_fold (fun (b : Nat) x => if cstB S x = true then b ||| (1 * 2 ^ x) else b) (fun a k => (i32 (a : Int), i32 (k : Int))) (fun a => i32 (a : Int)) S.1 ?_ ?_ (a := 0) (show ((0 : Int32), (0 : Int32)) = _ from rfl), sb]
  · rfl
  · intro a x hx
    unfold fLX11_constant_4
    rw [g_0_3, sb, g_2_0, sb, g_3_0, sb, hR.1, if_neg (by rw [le32 (by omega) (by omega) (by omega) (by omega)]; omega), sb, g_2_0, sb, o_3, sb, c_isConst hS hR (by omega), sb]
    by_cases c : cstB S x = true
    · rw [if_pos c, if_neg (by decide), xlet_eq, xlet_eq, show (1 : Int32) = i32 ((1 : Nat) : Int) from by decide, shl32 (by omega), or32, a32, if_pos c]; rfl
    · rw [if_neg c, if_pos rfl, xlet_eq, q1, a32, if_neg c]; rfl
  · intro a
    unfold fLX11_constant_4
    rw [g_0_3, sb, g_2_0, sb, g_3_0, sb, hR.1, if_pos (by rw [le32 (by omega) (by omega) (by omega) (by omega)]; omega)]
theorem all_find (P : Nat → Bool) (n : Nat) : (List.range n).foldl (fun b r => b && P r) true = ((List.range n).find? (fun r => !P r)).isNone := by
  have key : ∀ (l : List Nat) (b : Bool), l.foldl (fun b r => b && P r) b = (b && (l.find? (fun r => !P r)).isNone) := by
    intro l
    induction l with
    | nil => intro b; simp
    | cons x l ih =>
      intro b
      rw [List.foldl_cons, ih, List.find?_cons]
      cases P x <;> simp
  rw [key]; simp
theorem r_constant (hS : WfS S) (hR : RR (s.2 309) S) : fX12_constant (M h s) (h + 308) = some (i32 (conS S : Int), M h (mI s 308 (upd (s.1 308) 0 0))) := by
  have hK := hS.1.2
  have h12 := hS.2.1
  have hR : RR ((mI s 308 (upd (s.1 308) 0 0)).2 309) S := hR
  unfold fX12_constant
  rw [w_308_0, sb, loop_fold (fun (b : Nat) x => if cstB S x = true then b ||| (1 * 2 ^ x) else b) (fun a k => (i32 (a : Int), i32 (k : Int))) (fun a => i32 (a : Int)) S.1 ?_ ?_ (a := 0) (show ((0 : Int32), (0 : Int32)) = _ from rfl), sb]
  · rfl
  · intro a x hx
    have hin : ∀ a : Int32, iterP (fLX12_constant_22 (M h (mI s 308 (upd (s.1 308) 0 0))) (h + 308) a (i32 (x : Int))) (1, 0) = some (if cstB S x = true then 1 else 0) := by
      intro a
      rw [loop_fold (fun (b : Bool) r => b && decide (occ (rl S r) x = occ (rr S r) x)) (fun b k => (if b = true then (1 : Int32) else 0, i32 (k : Int))) (fun b => if b = true then (1 : Int32) else 0) (nr S) ?_ ?_ (a := true) (show ((1 : Int32), (0 : Int32)) = _ from rfl), all_find (fun r => decide (occ (rl S r) x = occ (rr S r) x))]
      · unfold cstB
        simp only [decide_not]
      · intro b r hr
        have e1 := occ_le (w := rl S r) (x := x)
        have e2 := occ_le (w := rr S r) (x := x)
        have e3 := (wl hS hr).1
        have e4 := (wr hS hr).1
        unfold fLX12_constant_22
        rw [o_308, sb, r_rules hR, sb, if_neg (by rw [le32 (by omega) (by omega) (by omega) (by omega)]; omega)]
        cases b with
        | false =>
          rw [if_pos (show (if (false : Bool) = true then (1 : Int32) else 0) = 0 from rfl), xlet_eq, q1, a32]; rfl
        | true =>
          rw [if_neg (show ¬ (if (true : Bool) = true then (1 : Int32) else 0) = 0 from by decide), sb, r_left hS hR hr, sb, r_often (wl hS hr) (by omega), sb, sb, r_right hS hR hr, sb, r_often (wr hS hr) (by omega), sb]
          by_cases c : occ (rl S r) x = occ (rr S r) x
          · rw [if_pos (by rw [c]), xlet_eq, show i32 (r : Int) + 1 = i32 ((r + 1 : Nat) : Int) from by rw [q1, a32]; rfl]
            simp [c]
          · rw [if_neg (by rw [eq32 (by omega) (by omega) (by omega) (by omega)]; omega), xlet_eq, show i32 (r : Int) + 1 = i32 ((r + 1 : Nat) : Int) from by rw [q1, a32]; rfl]
            simp [c]
      · intro b
        unfold fLX12_constant_22
        rw [o_308, sb, r_rules hR, sb, if_pos (by rw [le32 (by omega) (by omega) (by omega) (by omega)]; omega)]
    unfold fLX12_constant_9
    rw [o_308, sb, r_letters hR, sb, if_neg (by rw [le32 (by omega) (by omega) (by omega) (by omega)]; omega), hin, sb]
    by_cases c : cstB S x = true
    · rw [if_pos c, if_neg (by decide), xlet_eq, xlet_eq, show (1 : Int32) = i32 ((1 : Nat) : Int) from by decide, shl32 (by omega), or32, a32, if_pos c]; rfl
    · rw [if_neg c, if_pos rfl, xlet_eq, xlet_eq, show (0 : Int32) = i32 ((0 : Nat) : Int) from by decide, or32, Nat.or_zero, q1, a32, if_neg c]; rfl
  · intro a
    unfold fLX12_constant_9
    rw [o_308, sb, r_letters hR, sb, if_pos (by rw [le32 (by omega) (by omega) (by omega) (by omega)]; omega)]
/-! what is said -/
def lrk (S : Sys) (k : Nat) : Nat := match (List.range S.1).find? (fun x => decide (S.2.2.2 x = k)) with
  | some x => x
  | none => 0
def syW (w : List Nat) : List Nat := w.map (fun x => 97 + x)
def syR (S : Sys) (r : Nat) : List Nat := (if r = 0 then [] else [44]) ++ syW (rl S r) ++ [62] ++ syW (rr S r)
def syL (S : Sys) (k : Nat) : List Nat := [97 + lrk S k, 48 + S.2.2.1 (lrk S k)]
def sy (S : Sys) : List Nat := (List.range (nr S)).flatMap (syR S) ++ [47] ++ (List.range S.1).flatMap (syL S)
theorem lrk_of {S : Sys} (hS : WfS S) {y : Nat} (hy : y < S.1) : lrk S (S.2.2.2 y) = y := by
  unfold lrk
  cases hf : (List.range S.1).find? (fun x => decide (S.2.2.2 x = S.2.2.2 y)) with
  | none =>
    have := find_none hf y hy
    simp at this
  | some x =>
    obtain ⟨h1, h2, -⟩ := find_some hf
    exact hS.2.2.2.2.2 x y h1 hy (of_decide_eq_true h2)
/-- the class's bytes said so far -/
def SC (s0 : Mm) (B : List Nat) (s' : Mm) : Prop := s'.2 = s0.2 ∧ (∀ i, i ≠ 0 → i ≠ 307 → s'.1 i = s0.1 i) ∧ (∀ j, j ≠ 19 → s'.1 0 j = s0.1 0 j) ∧ s'.1 0 19 = i32 (B.length : Int) ∧ ∀ j, j < B.length → s'.1 307 j = i32 ((B.getD j 0 : Nat) : Int)
theorem SC.rs {s0 s' : Mm} {B : List Nat} (hC : SC s0 B s') (hR : RS s0 3 S) : RS s' 3 S := by
  unfold RS
  rw [hC.1, hC.2.1 3 (by decide) (by decide), hC.2.1 (3 + 3) (by decide) (by decide), hC.2.1 (3 + 4) (by decide) (by decide)]
  exact hR
theorem c_sign {s0 s' : Mm} {B : List Nat} (hC : SC s0 B s') (hl : B.length < 430) {b : Nat} : ∃ s'' : Mm, fX11_saySign (M h s') (h + 0) (i32 (b : Int)) = some (M h s'') ∧ SC s0 (B ++ [b]) s'' := by
  obtain ⟨c1, c2, c3, c4, c5⟩ := hC
  unfold fX11_saySign
  rw [g_0_19, sb, c4, if_neg (by rw [q430]; rw [le32 (by omega) (by omega) (by omega) (by omega)]; omega)]
  simp only [g_0_18, sb, g_0_19, c4, s_307 (show (0 : Int) ≤ (B.length : Int) by omega) (show (B.length : Int) < 430 by omega), tn0, mI_ne (show (0 : Nat) ≠ 307 by decide), q1, a32, w_0_19]
  refine ⟨_, rfl, c1, fun i h1 h2 => by rw [mI_ne h1, mI_ne h2]; exact c2 i h1 h2, fun j hj => by rw [mI_at, upd_ne hj]; exact c3 j hj, by rw [mI_at, upd_at, List.length_append]; rfl, fun j hj => ?_⟩
  rw [List.length_append, show [b].length = 1 from rfl] at hj
  rw [mI_ne (by decide), mI_at]
  by_cases c : j = B.length
  · subst c
    rw [upd_at, getD_app2]
  · rw [upd_ne c, getD_app1 (by omega)]
    exact c5 j (by omega)
theorem c_sayWord {s0 s' : Mm} {B : List Nat} (hC : SC s0 B s') (hw : Ww w) (hl : B.length + w.length ≤ 430) : ∃ s'' : Mm, fX11_sayWord (M h s') (h + 0) (i64 (cw w : Int)) = some (M h s'') ∧ SC s0 (B ++ syW w) s'' := by
  have h16 := hw.1
  obtain ⟨y, k1, k2⟩ := loop_rel (F := fLX11_sayWord_2 (h + 0) (i64 (cw w : Int))) (E := Empty) (fun (B : List Nat) k => .inl (B ++ [97 + w.getD k 0]))
    (fun B' k x => ∃ s'' : Mm, x = (i32 (k : Int), M h s'') ∧ SC s0 B' s'' ∧ B'.length = B.length + k) (fun B' y => ∃ s'' : Mm, y = M h s'' ∧ SC s0 B' s'') (fun e _ => e.elim) w.length (by
      rintro B' k x hk ⟨s1, rfl, h1, h2⟩
      obtain ⟨s2, z1, z2⟩ := c_sign (h := h) h1 (by omega) (b := 97 + w.getD k 0)
      unfold fLX11_sayWord_2
      rw [c_len hw, sb, if_neg (by rw [le32 (by omega) (by omega) (by omega) (by omega)]; omega), c_let hw (by omega), sb, ltr_of hk, o_0, sb, q97, a32, show ((97 : Int) + ((w.getD k 0 : Nat) : Int)) = ((97 + w.getD k 0 : Nat) : Int) from rfl, z1, sb, xlet_eq, q1, a32]
      exact ⟨_, rfl, _, rfl, s2, rfl, z2, by rw [List.length_append]; show B'.length + 1 = _; omega⟩) (by
      rintro B' x ⟨s1, rfl, h1, h2⟩
      unfold fLX11_sayWord_2
      rw [c_len hw, sb, if_pos (by rw [le32 (by omega) (by omega) (by omega) (by omega)]; omega)]
      exact ⟨_, rfl, s1, rfl, h1⟩) (a := B) (x := (0, M h s')) ⟨s', rfl, hC, by omega⟩
  have ef : ∀ (l : List Nat) (B : List Nat), l.foldl (fun (B : List Nat) x => B ++ [97 + x]) B = B ++ syW l := by
    intro l
    induction l with
    | nil => intro B; simp [syW]
    | cons x l ih => intro B; rw [List.foldl_cons, ih]; unfold syW; simp
  rw [walk_fold, fold_list (fun (B : List Nat) x => B ++ [97 + x]) 0 w, ef] at k2
  obtain ⟨s'', rfl, k3⟩ := k2
  refine ⟨s'', ?_, k3⟩
  unfold fX11_sayWord
  rw [k1, sb]
theorem c_rank (hS : WfS S) (hR : RS s 3 S) {k : Nat} (hk : k < 5) : fX8_letterAtRank (M h s) (h + 3) (i32 (k : Int)) = some (i32 (lrk S k : Int)) := by
  have hK := hS.1.2
  unfold fX8_letterAtRank lrk
  rw [loop_find (fun x => decide (S.2.2.2 x = k)) (fun x => i32 (x : Int)) (.inr ()) (fun x => .inl (i32 (x : Int))) S.1 ?_ ?_ (show (0 : Int32) = _ from rfl), sb]
  · cases (List.range S.1).find? (fun x => decide (S.2.2.2 x = k)) <;> rfl
  · intro x hx
    have hr := hS.2.2.2.2.1 x hx
    unfold fLX8_letterAtRank_2
    rw [g_3_0, sb, hR.1, if_neg (by rw [le32 (by omega) (by omega) (by omega) (by omega)]; omega), g_3_5, sb, a_7 (by omega) (by omega), tn0, sb, hR.2.2.2.2.2 x hx]
    by_cases c : S.2.2.2 x = k
    · rw [if_pos (by rw [c]), if_pos (decide_eq_true c)]
    · rw [if_neg (by rw [eq32 (by omega) (by omega) (by omega) (by omega)]; omega), if_neg (by rw [decide_eq_true_eq]; exact c), xlet_eq, q1, a32]; rfl
  · unfold fLX8_letterAtRank_2
    rw [g_3_0, sb, hR.1, if_pos (by rw [le32 (by omega) (by omega) (by omega) (by omega)]; omega)]
theorem lrk_lt {S : Sys} (hS : WfS S) (k : Nat) : lrk S k < S.1 := by
  unfold lrk
  cases hf : (List.range S.1).find? (fun x => decide (S.2.2.2 x = k)) with
  | none => have := hS.1.1; simp only []; omega
  | some x => exact (find_some hf).1
theorem syR_len {S : Sys} (hS : WfS S) {r : Nat} (hr : r < nr S) : (syR S r).length ≤ 34 := by
  have := (wl hS hr).1
  have := (wr hS hr).1
  unfold syR syW
  simp only [List.length_append, List.length_map, List.length_cons, List.length_nil]
  split <;> simp <;> omega
theorem c_say (hS : WfS S) (hR : RS s 3 S) : ∃ s' : Mm, fX11_say (M h s) (h + 0) = some (i32 ((sy S).length : Int), M h s') ∧ SC s (sy S) s' ∧ (sy S).length ≤ 430 := by
  have h12 := hS.2.1
  have hK := hS.1.2
  have h0 : SC s [] (mI s 0 (upd (s.1 0) 19 0)) := ⟨rfl, fun i h1 _ => by rw [mI_ne h1], fun j hj => by rw [mI_at, upd_ne hj], by rw [mI_at, upd_at]; rfl, fun j hj => absurd hj (by simp)⟩
  obtain ⟨y, k1, k2⟩ := loop_rel (F := fLX11_say_15 (h + 0) (h + 3)) (E := Empty) (fun (B : List Nat) r => .inl (B ++ syR S r))
    (fun B r x => ∃ s' : Mm, x = (i32 (r : Int), M h s') ∧ SC s B s' ∧ B.length ≤ 34 * r) (fun B y => ∃ s' : Mm, y = M h s' ∧ SC s B s' ∧ B.length ≤ 34 * nr S) (fun e _ => e.elim) (nr S) (by
      rintro B r x hr ⟨s1, rfl, h1, h2⟩
      have hR1 := h1.rs hR
      have hl := (wl hS hr).1
      have hrr := (wr hS hr).1
      have hJ : ∀ (B : List Nat) (s1 : Mm), SC s B s1 → B.length ≤ 34 * r + 1 → ∃ s2 : Mm, fJX11_say_15_33 (M h s1) (h + 0) (h + 3) (i32 (r : Int)) = some (.inl (i32 ((r + 1 : Nat) : Int), M h s2)) ∧ SC s (B ++ syW (rl S r) ++ [62] ++ syW (rr S r)) s2 := by
        intro B s1 h1 h2
        obtain ⟨s2, a1, a2⟩ := c_sayWord (h := h) h1 (wl hS hr) (by omega)
        obtain ⟨s3, b1, b2⟩ := c_sign (h := h) a2 (by unfold syW; rw [List.length_append, List.length_map]; omega) (b := 62)
        obtain ⟨s4, d1, d2⟩ := c_sayWord (h := h) b2 (wr hS hr) (by unfold syW; rw [List.length_append, List.length_append, List.length_map]; show B.length + (rl S r).length + 1 + _ ≤ 430; omega)
        refine ⟨s4, ?_, d2⟩
        have b1 : fX11_saySign _ _ 62 = _ := b1
        unfold fJX11_say_15_33
        rw [g_3_2, sb, rdl hS (h1.rs hR) hr, sb, o_0, sb, a1, sb, o_0, sb, b1, sb, g_3_3, sb, rdr hS (b2.rs hR) hr, sb, o_0, sb, d1, sb, xlet_eq, q1, a32]; rfl
      unfold fLX11_say_15
      rw [g_3_1, sb, hR1.2.1, if_neg (by rw [le32 (by omega) (by omega) (by omega) (by omega)]; omega)]
      have hsl := syR_len hS hr
      by_cases c : r = 0
      · obtain ⟨s2, z1, z2⟩ := hJ B s1 h1 (by omega)
        rw [if_pos (by rw [q0]; rw [le32 (by omega) (by omega) (by omega) (by omega)]; omega), z1]
        refine ⟨_, rfl, _, rfl, s2, rfl, ?_, by rw [List.length_append]; omega⟩
        unfold syR
        rw [if_pos c, List.nil_append, ← List.append_assoc, ← List.append_assoc]
        exact z2
      · obtain ⟨s2, b1, b2⟩ := c_sign (h := h) h1 (by omega) (b := 44)
        have b1 : fX11_saySign _ _ 44 = _ := b1
        obtain ⟨s3, z1, z2⟩ := hJ (B ++ [44]) s2 b2 (by rw [List.length_append]; show B.length + 1 ≤ _; omega)
        rw [if_neg (by rw [q0]; rw [le32 (by omega) (by omega) (by omega) (by omega)]; omega), o_0, sb, b1, sb, z1]
        refine ⟨_, rfl, _, rfl, s3, rfl, ?_, by rw [List.length_append]; omega⟩
        unfold syR
        rw [if_neg c, ← List.append_assoc, ← List.append_assoc, ← List.append_assoc]
        exact z2) (by
      rintro B x ⟨s1, rfl, h1, h2⟩
      have hR1 := h1.rs hR
      unfold fLX11_say_15
      rw [g_3_1, sb, hR1.2.1, if_pos (by rw [le32 (by omega) (by omega) (by omega) (by omega)]; omega)]
      exact ⟨_, rfl, s1, rfl, h1, by omega⟩) (a := []) (x := (0, M h (mI s 0 (upd (s.1 0) 19 0)))) ⟨_, rfl, h0, by simp⟩
  have ef : ∀ (f : Nat → List Nat) (l : List Nat) (B : List Nat), l.foldl (fun (B : List Nat) x => B ++ f x) B = B ++ l.flatMap f := by
    intro f l
    induction l with
    | nil => intro B; simp
    | cons x l ih => intro B; rw [List.foldl_cons, ih, List.flatMap_cons, List.append_assoc]
  rw [walk_fold, ef, List.nil_append] at k2
  obtain ⟨s1, rfl, k3, k4⟩ := k2
  obtain ⟨s2, b1, b2⟩ := c_sign (h := h) k3 (by omega) (b := 47)
  have b1 : fX11_saySign _ _ 47 = _ := b1
  obtain ⟨y, m1, m2⟩ := loop_rel (F := fLX11_say_73 (h + 0) (h + 3)) (E := Empty) (fun (B : List Nat) k => .inl (B ++ syL S k))
    (fun B k x => ∃ s' : Mm, x = (i32 (k : Int), M h s') ∧ SC s B s' ∧ B.length ≤ 34 * nr S + 1 + 2 * k) (fun B y => ∃ s' : Mm, y = M h s' ∧ SC s B s' ∧ B.length ≤ 430) (fun e _ => e.elim) S.1 (by
      rintro B k x hk ⟨s1, rfl, h1, h2⟩
      have hR1 := h1.rs hR
      have hlk := lrk_lt hS k
      have hwt := hS.2.2.2.1 (lrk S k) (by omega)
      obtain ⟨s2, a1, a2⟩ := c_sign (h := h) h1 (by omega) (b := 97 + lrk S k)
      obtain ⟨s3, d1, d2⟩ := c_sign (h := h) a2 (by rw [List.length_append]; show B.length + 1 < 430; omega) (b := 48 + S.2.2.1 (lrk S k))
      unfold fLX11_say_73
      rw [g_3_0, sb, hR1.1, if_neg (by rw [le32 (by omega) (by omega) (by omega) (by omega)]; omega), o_3, sb, c_rank hS hR1 (by omega), sb, o_0, sb, q97, a32, show ((97 : Int) + (lrk S k : Int)) = ((97 + lrk S k : Nat) : Int) from rfl, a1, sb, g_3_4, sb, a_6 (by omega) (by omega), tn0, sb, (a2.rs hR).2.2.2.2.1 _ (by omega), o_0, sb, q48, a32, show ((48 : Int) + (S.2.2.1 (lrk S k) : Int)) = ((48 + S.2.2.1 (lrk S k) : Nat) : Int) from rfl, d1, sb, xlet_eq, q1, a32]
      refine ⟨_, rfl, _, rfl, s3, rfl, ?_, by unfold syL; rw [List.length_append]; show B.length + 2 ≤ _; omega⟩
      rw [List.append_assoc] at d2
      exact d2) (by
      rintro B x ⟨s1, rfl, h1, h2⟩
      have hR1 := h1.rs hR
      unfold fLX11_say_73
      rw [g_3_0, sb, hR1.1, if_pos (by rw [le32 (by omega) (by omega) (by omega) (by omega)]; omega)]
      exact ⟨_, rfl, s1, rfl, h1, by omega⟩) (a := (List.range (nr S)).flatMap (syR S) ++ [47]) (x := (0, M h s2)) ⟨s2, rfl, b2, by rw [List.length_append]; show _ + 1 ≤ _; omega⟩
  rw [walk_fold, ef] at m2
  obtain ⟨s3, rfl, m3, m4⟩ := m2
  refine ⟨s3, ?_, m3, m4⟩
  unfold fX11_say
  rw [g_0_3, sb, g_2_0, sb, w_0_19, sb, k1, sb, o_0, sb, b1, sb, m1, sb, g_0_19, sb, m3.2.2.2.1]; rfl
end CC
