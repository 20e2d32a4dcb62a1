/-! OVERLAPS in the reference: open ones, a rule more; rules that fall, in both -/
def flS (S : Sys) : Nat := ((List.range (nr S)).filter (fun r => decide (0 < cmpS S (rl S r) (rr S r)))).length
section CC
variable {h : Nat} {s : Mm} {S : Sys}
theorem c_isFalling (hS : WfS S) (hR : RS s 3 S) {r : Nat} (hr : r < nr S) : fX8_isFalling (M h s) (h + 3) (i32 (r : Int)) = some (if 0 < cmpS S (rl S r) (rr S r) then 1 else 0) := by
  unfold fX8_isFalling
  rw [g_3_2, sb, rdl hS hR hr, sb, g_3_3, sb, rdr hS hR hr, sb, o_3, sb, c_order hS hR (hS.2.2.1 r hr).1 (hS.2.2.1 r hr).2.1, sb]
  rcases cmp3 S (rl S r) (rr S r) with e | e | e <;> rw [e] <;> decide
theorem c_falling (hS : WfS S) (hR : RS s 3 S) : fX8_falling (M h s) (h + 3) = some (i32 (flS S : Int)) := by
  have h12 := hS.2.1
  unfold fX8_falling
  rw [loop_fold (fun (a : Nat) r => if 0 < cmpS S (rl S r) (rr S r) then a + 1 else a) (fun a k => (i32 (a : Int), i32 (k : Int))) (fun a => i32 (a : Int)) (nr S) ?_ ?_ (a := 0) (show ((0 : Int32), (0 : Int32)) = _ from rfl), sb, filt_cnt (fun r => 0 < cmpS S (rl S r) (rr S r)), Nat.zero_add]
  · rfl
  · intro a r hr
    unfold fLX8_falling_4
    rw [g_3_1, sb, hR.2.1, if_neg (by rw [le32 (by omega) (by omega) (by omega) (by omega)]; omega), o_3, sb, c_isFalling hS hR hr, sb]
    by_cases c : 0 < cmpS S (rl S r) (rr S r)
    · rw [if_pos c, if_neg (by decide), xlet_eq, xlet_eq, q1, a32, a32, if_pos c]; rfl
    · rw [if_neg c, if_pos rfl, xlet_eq, q1, a32, if_neg c]; rfl
  · intro a
    unfold fLX8_falling_4
    rw [g_3_1, sb, hR.2.1, if_pos (by rw [le32 (by omega) (by omega) (by omega) (by omega)]; omega)]
theorem r_doesFall (hS : WfS S) (hR : RR (s.2 309) S) {r : Nat} (hr : r < nr S) : fX12_doesFall (M h s) (h + 308) (i32 (r : Int)) = some (if 0 < cmpS S (rl S r) (rr S r) then 1 else 0) := by
  unfold fX12_doesFall
  simp only [o_308, sb, r_left hS hR hr, r_right hS hR hr, r_cmp hS hR (hS.2.2.1 r hr).1 (hS.2.2.1 r hr).2.1]
  rcases cmp3 S (rl S r) (rr S r) with e | e | e <;> rw [e] <;> decide
theorem r_falling (hS : WfS S) (hR : RR (s.2 309) S) : fX12_falling (M h s) (h + 308) = some (i32 (flS S : Int)) := by
  have h12 := hS.2.1
  unfold fX12_falling
  rw [loop_fold (fun (a : Nat) r => if 0 < cmpS S (rl S r) (rr S r) then a + 1 else a) (fun a k => (i32 (a : Int), i32 (k : Int))) (fun a => i32 (a : Int)) (nr S) ?_ ?_ (a := 0) (show ((0 : Int32), (0 : Int32)) = _ from rfl), sb, filt_cnt (fun r => 0 < cmpS S (rl S r) (rr S r)), Nat.zero_add]
  · rfl
  · intro a r hr
    unfold fLX12_falling_4
    rw [o_308, sb, r_rules hR, sb, if_neg (by rw [le32 (by omega) (by omega) (by omega) (by omega)]; omega), sb, r_doesFall hS hR hr, sb]
    by_cases c : 0 < cmpS S (rl S r) (rr S r)
    · rw [if_pos c, if_neg (by decide), xlet_eq, xlet_eq, q1, a32, a32, if_pos c]; rfl
    · rw [if_neg c, if_pos rfl, xlet_eq, xlet_eq, q1, a32, q0, a32, Int.add_zero, if_neg c]; rfl
  · intro a
    unfold fLX12_falling_4
    rw [o_308, sb, r_rules hR, sb, if_pos (by rw [le32 (by omega) (by omega) (by omega) (by omega)]; omega)]
theorem flS_le : flS S ≤ nr S := by
  unfold flS
  have := List.length_filter_le (fun r => decide (0 < cmpS S (rl S r) (rr S r))) (List.range (nr S))
  rw [List.length_range] at this
  exact this
theorem flS_all : flS S = nr S ↔ ∀ r, r < nr S → 0 < cmpS S (rl S r) (rr S r) := by
  unfold flS
  constructor
  · intro e r hr
    have : ((List.range (nr S)).filter (fun r => decide (0 < cmpS S (rl S r) (rr S r)))).length = (List.range (nr S)).length := by rw [List.length_range]; exact e
    have := List.length_filter_eq_length_iff.mp this r (List.mem_range.mpr hr)
    exact of_decide_eq_true this
  · intro hall
    rw [List.filter_eq_self.mpr (fun r hr => decide_eq_true (hall r (List.mem_range.mp hr))), List.length_range]
theorem ovs_len (hS : WfS S) : (ovs S).length ≤ 2304 := by
  have h12 := hS.2.1
  have hli : ∀ i j, i < nr S → (ovIn S i j (rng (ov0 i j) (rl S i).length)).length ≤ 16 := fun i j hi => by
    have := ovIn_len S i j (rng (ov0 i j) (rl S i).length)
    rw [rng_len] at this
    have := (wl hS hi).1
    omega
  have h1 : ∀ i, i < nr S → ∀ l : List Nat, (l.flatMap (fun j => ovIn S i j (rng (ov0 i j) (rl S i).length))).length ≤ l.length * 16 := by
    intro i hi l
    induction l with
    | nil => simp
    | cons j l ih => rw [List.flatMap_cons, List.length_append, List.length_cons]; have := hli i j hi; omega
  have h2 : ∀ l : List Nat, (∀ i ∈ l, i < nr S) → (l.flatMap (fun i => (List.range (nr S)).flatMap (fun j => ovIn S i j (rng (ov0 i j) (rl S i).length)))).length ≤ l.length * 192 := by
    intro l
    induction l with
    | nil => intro _; simp
    | cons i l ih =>
      intro hl
      rw [List.flatMap_cons, List.length_append, List.length_cons]
      have a1 := h1 i (hl i (by simp)) (List.range (nr S))
      rw [List.length_range] at a1
      have := ih (fun x hx => hl x (by simp [hx]))
      omega
  have := h2 (List.range (nr S)) (fun i hi => List.mem_range.mp hi)
  rw [List.length_range] at this
  unfold ovs
  omega
theorem ovd_get {O : List Ov} {k : Nat} (hk : k < O.length) : O[k]? = some (ovd O k) := by
  unfold ovd
  rw [List.getD_eq_getElem?_getD, List.getElem?_eq_getElem hk]; rfl
theorem RO2.tr {s' s'' : Mm} (h1 : RO2 s s') (h2 : RO2 s' s'') : RO2 s s'' := Rf.tr h1 h2
theorem r_many (hS : WfS S) (hR : RR (s.2 309) S) : ∃ s' : Mm, fX12_overlapMany (M h s) (h + 308) = some (i32 ((ovs S).length : Int), M h s') ∧ RO2 s s' := by
  obtain ⟨s', b, e1, e2, e3⟩ := r_overlaps (h := h) (k := -1) hS hR (by omega)
  refine ⟨s', ?_, e2.to2⟩
  unfold fX12_overlapMany
  rw [o_308, sb, qm1, e1, sb, g_308_32, sb]
  rcases e3 with ⟨o, h0, -⟩ | ⟨-, -, h0⟩
  · exact absurd h0 (by decide)
  · rw [h0]
/-- overlap k found and its ends laid -/
theorem r_ovk (hS : WfS S) (hR : RR (s.2 309) S) {k : Nat} (hk : k < (ovs S).length) : ∃ s1 s2 : Mm, fX12_overlaps (M h s) (h + 308) (i32 (k : Int)) = some (1, M h s1) ∧ s1.2 308 31 = i64 (r6 (ovd (ovs S) k).2.2.2 : Int) ∧ fX12_closes (M h s1) (h + 308) = some (if end1 S (ovd (ovs S) k) = end2 S (ovd (ovs S) k) then 1 else 0, M h s2) ∧ RO2 s s1 ∧ RO2 s s2 ∧ s2.2 308 33 = i64 (r6 (end1 S (ovd (ovs S) k)) : Int) ∧ s2.2 308 34 = i64 (r6 (end2 S (ovd (ovs S) k)) : Int) ∧ Wk S.1 (end1 S (ovd (ovs S) k)) ∧ Wk S.1 (end2 S (ovd (ovs S) k)) := by
  have hl := ovs_len hS
  obtain ⟨s1, b, e1, e2, e3⟩ := r_overlaps (h := h) (k := (k : Int)) hS hR (by omega)
  rcases e3 with ⟨o, -, ho, rfl, hO⟩ | ⟨ho, -⟩
  · rw [tn0, ovd_get hk] at ho
    cases ho
    have hok := mem_ovs (ovd_mem hk)
    obtain ⟨s2, f1, f2, f3, f4, f5, f6⟩ := r_closes (h := h) hS (hR.rf e2 (Or.inr (by decide))) hok hO
    exact ⟨s1, s2, e1, hO.2.2.2, f1, e2.to2, e2.to2.tr f2, f3, f4, f5, f6⟩
  · rw [tn0, ovd_get hk] at ho
    rcases ho with ho | ho
    · omega
    · cases ho
theorem r_ovEnd (hS : WfS S) (hR : RR (s.2 309) S) : ∃ s1 : Mm, fX12_overlaps (M h s) (h + 308) (i32 ((ovs S).length : Int)) = some (0, M h s1) ∧ RO2 s s1 := by
  have hl := ovs_len hS
  obtain ⟨s1, b, e1, e2, e3⟩ := r_overlaps (h := h) (k := ((ovs S).length : Int)) hS hR (by omega)
  rcases e3 with ⟨o, -, ho, rfl, hO⟩ | ⟨-, rfl, -⟩
  · rw [tn0, List.getElem?_eq_none (Nat.le_refl _)] at ho
    cases ho
  · exact ⟨s1, e1, e2.to2⟩
theorem r_unclosed (hS : WfS S) (hR : RR (s.2 309) S) : ∃ s' : Mm, fX12_unclosed (M h s) (h + 308) = some (i32 (opn S : Int), M h s') ∧ RO2 s s' := by
  have hl := ovs_len hS
  obtain ⟨y, k1, k2⟩ := loop_rel (F := fLX12_unclosed_4 (h + 308)) (E := Empty) (fun (a : Nat) k => .inl (if ¬ end1 S (ovd (ovs S) k) = end2 S (ovd (ovs S) k) then a + 1 else a))
    (fun a k x => ∃ s' : Mm, x = (i32 (a : Int), i32 (k : Int), M h s') ∧ RO2 s s') (fun a y => ∃ s' : Mm, y = (i32 (a : Int), M h s') ∧ RO2 s s') (fun e _ => e.elim) (ovs S).length (by
      rintro a k x hk ⟨s', rfl, hF⟩
      obtain ⟨s1, s2, e1, -, e3, -, e5, -⟩ := r_ovk (h := h) hS (hR.rf hF (Or.inl (by decide))) hk
      unfold fLX12_unclosed_4
      rw [o_308, sb, e1, sb, if_neg (by show ¬ (1 : Int32) = 0; decide), o_308, sb, e3, sb]
      by_cases c : end1 S (ovd (ovs S) k) = end2 S (ovd (ovs S) k)
      · rw [if_pos c, if_neg (by show ¬ (1 : Int32) = 0; decide), xlet_eq, xlet_eq, q1, a32, q0, a32, Int.add_zero, if_neg (fun hn => hn c)]
        exact ⟨_, rfl, _, rfl, s2, rfl, hF.tr e5⟩
      · rw [if_neg c, if_pos (show (0 : Int32) = 0 from rfl), xlet_eq, xlet_eq, q1, a32, a32, if_pos c]
        exact ⟨_, rfl, _, rfl, s2, rfl, hF.tr e5⟩) (by
      rintro a x ⟨s', rfl, hF⟩
      obtain ⟨s1, e1, e2⟩ := r_ovEnd (h := h) hS (hR.rf hF (Or.inl (by decide)))
      unfold fLX12_unclosed_4
      rw [o_308, sb, e1, sb, if_pos (show (0 : Int32) = 0 from rfl)]
      exact ⟨_, rfl, s1, rfl, hF.tr e2⟩) (a := 0) (x := (0, 0, M h s)) ⟨s, rfl, Rf.rf⟩
  rw [walk_fold, fold_ovd (fun (a : Nat) o => if ¬ end1 S o = end2 S o then a + 1 else a), filt_cnt (fun o => ¬ end1 S o = end2 S o), Nat.zero_add] at k2
  obtain ⟨s', rfl, k3⟩ := k2
  refine ⟨s', ?_, k3⟩
  unfold fX12_unclosed
  rw [k1, sb]; rfl
theorem r_lo (hS : WfS S) (hR : RR (s.2 309) S) : ∃ s' : Mm, iterP (fLX12_addsRule_7 (h + 308)) (-1, 0, 0, M h s) = some (i32 (natO (lo S)), M h s') ∧ RO2 s s' ∧ ∀ k, lo S = some k → k < (ovs S).length ∧ ¬ end1 S (ovd (ovs S) k) = end2 S (ovd (ovs S) k) := by
  have hl := ovs_len hS
  have hok : ∀ j, j < (ovs S).length → Wk S.1 (ovd (ovs S) j).2.2.2 := fun j hj => by
    have ho := mem_ovs (ovd_mem hj)
    exact (lay_ok hS ho.1 ho.2.1 ho.2.2.1 ho.2.2.2).1
  obtain ⟨y, k1, k2⟩ := loop_rel (F := fLX12_addsRule_7 (h + 308)) (E := Empty) (fun (b : Option Nat) k => .inl (loG S b k))
    (fun b k x => ∃ (s' : Mm) (v : Int64), x = (i32 (natO b), v, i32 (k : Int), M h s') ∧ RO2 s s' ∧ ∀ j, b = some j → j < k ∧ v = i64 (r6 (ovd (ovs S) j).2.2.2 : Int) ∧ ¬ end1 S (ovd (ovs S) j) = end2 S (ovd (ovs S) j)) (fun b y => ∃ s' : Mm, y = (i32 (natO b), M h s') ∧ RO2 s s' ∧ ∀ j, b = some j → j < (ovs S).length ∧ ¬ end1 S (ovd (ovs S) j) = end2 S (ovd (ovs S) j)) (fun e _ => e.elim) (ovs S).length (by
      rintro b k x hk ⟨s', v, rfl, hF, hb⟩
      obtain ⟨s1, s2, e1, e2, e3, e4, e5, -⟩ := r_ovk (h := h) hS (hR.rf hF (Or.inl (by decide))) hk
      unfold fLX12_addsRule_7 loG
      rw [o_308, sb, e1, sb, if_neg (by show ¬ (1 : Int32) = 0; decide), g_308_31, sb, e2, o_308, sb, e3, sb]
      by_cases c : end1 S (ovd (ovs S) k) = end2 S (ovd (ovs S) k)
      · rw [if_pos c, if_neg (by show ¬ (1 : Int32) = 0; decide), xlet_eq, q1, a32, if_pos c]
        exact ⟨_, rfl, _, rfl, s2, v, rfl, hF.tr e5, fun j hj => ⟨by have := (hb j hj).1; omega, (hb j hj).2⟩⟩
      · rw [if_neg c, if_pos (show (0 : Int32) = 0 from rfl), if_neg c]
        cases b with
        | none =>
          rw [if_pos (show i32 (natO none) = -1 from by decide), xlet_eq, q1, a32]
          exact ⟨_, rfl, _, rfl, s2, _, rfl, hF.tr e5, fun j hj => by cases hj; exact ⟨by omega, rfl, c⟩⟩
        | some j =>
          obtain ⟨b1, b2, b3⟩ := hb j rfl
          subst b2
          rw [if_neg (show ¬ i32 (natO (some j)) = -1 from by rw [qm1, show natO (some j) = (j : Int) from rfl]; rw [eq32 (by omega) (by omega) (by omega) (by omega)]; omega), o_308, sb]
          simp only [r_cmp hS (hR.rf (hF.tr e5) (Or.inl (by decide))) (hok j (by omega)) (hok k hk), sb, xlet_eq, q1, a32, cmp_anti hS (hok j (by omega)) (hok k hk)]
          rcases cmp3 S (ovd (ovs S) k).2.2.2 (ovd (ovs S) j).2.2.2 with e | e | e
          · rw [e, if_pos (by decide), if_neg (by decide)]
            exact ⟨_, rfl, _, rfl, s2, _, rfl, hF.tr e5, fun i hi => by cases hi; exact ⟨by omega, rfl, b3⟩⟩
          · rw [e, if_pos (by decide), if_neg (by decide)]
            exact ⟨_, rfl, _, rfl, s2, _, rfl, hF.tr e5, fun i hi => by cases hi; exact ⟨by omega, rfl, b3⟩⟩
          · rw [e, if_neg (by decide), if_pos (by decide)]
            exact ⟨_, rfl, _, rfl, s2, _, rfl, hF.tr e5, fun i hi => by cases hi; exact ⟨by omega, rfl, c⟩⟩) (by
      rintro b x ⟨s', v, rfl, hF, hb⟩
      obtain ⟨s1, e1, e2⟩ := r_ovEnd (h := h) hS (hR.rf hF (Or.inl (by decide)))
      unfold fLX12_addsRule_7
      rw [o_308, sb, e1, sb, if_pos (show (0 : Int32) = 0 from rfl)]
      exact ⟨_, rfl, s1, rfl, hF.tr e2, fun j hj => ⟨(hb j hj).1, (hb j hj).2.2⟩⟩) (a := none) (x := (-1, 0, 0, M h s)) ⟨s, 0, by rw [show i32 (natO none) = -1 from by decide]; rfl, Rf.rf, fun j hj => by cases hj⟩
  rw [walk_fold] at k2
  obtain ⟨s', rfl, k3, k4⟩ := k2
  exact ⟨s', k1, k3, k4⟩
/-- a rule more in the reference's row -/
def rowAdd (f : Nat → Int64) (n : Nat) (u v : List Nat) : Nat → Int64 := vp_updL (vp_updL (vp_updL f (12 + n) (i64 (r6 u : Int))) (24 + n) (i64 (r6 v : Int))) 1 (i64 ((n : Int) + 1))
theorem RR.add {f : Nat → Int64} (hR : RR f S) (hn : nr S < 12) (hK : S.1 ≤ 5) {u v : List Nat} : RR (rowAdd f (nr S) u v) (addRule S u v) := by
  obtain ⟨i1, i2, i3, i4, i5, i6⟩ := hR
  unfold rowAdd
  refine ⟨?_, ?_, ?_, ?_, ?_, ?_⟩
  · rw [updL_ne (by decide), updL_ne (by omega), updL_ne (by omega)]; exact i1
  · rw [updL_at, addRule_nr]; rfl
  · intro x hx
    rw [updL_ne (by omega), updL_ne (by omega), updL_ne (by omega)]; exact i3 x hx
  · intro k hk
    have hk : k < S.1 := hk
    obtain ⟨y, y1, y2, y3⟩ := i4 k hk
    refine ⟨y, y1, ?_, y3⟩
    rw [updL_ne (by omega), updL_ne (by omega), updL_ne (by omega)]; exact y2
  · intro r hr
    rw [addRule_nr] at hr
    by_cases c : r = nr S
    · subst c
      rw [updL_ne (by omega), updL_ne (by omega), updL_at, addRule_2.1]
    · rw [updL_ne (by omega), updL_ne (by omega), updL_ne (by omega), (addRule_1 (by omega)).1]
      exact i5 r (by omega)
  · intro r hr
    rw [addRule_nr] at hr
    by_cases c : r = nr S
    · subst c
      rw [updL_ne (by omega), updL_at, addRule_2.2]
    · rw [updL_ne (by omega), updL_ne (by omega), updL_ne (by omega), (addRule_1 (by omega)).2]
      exact i6 r (by omega)
def addU (S : Sys) (o : Ov) : List Nat × List Nat := if 0 < cmpS S (end1 S o) (end2 S o) then (end1 S o, end2 S o) else (end2 S o, end1 S o)
theorem addOv_eq (o : Ov) : addOv S o = addRule S (addU S o).1 (addU S o).2 := by
  unfold addOv addU
  split <;> rfl
theorem r_addsRule (hS : WfS S) (hR : RR (s.2 309) S) (hn : nr S < 12) : ∃ s1 : Mm, RO2 s s1 ∧ (∀ k, lo S = some k → k < (ovs S).length ∧ ¬ end1 S (ovd (ovs S) k) = end2 S (ovd (ovs S) k)) ∧ fX12_addsRule (M h s) (h + 308) = some (match lo S with
    | none => (0, M h s1)
    | some k => (1, M h (mL s1 309 (rowAdd (s1.2 309) (nr S) (addU S (ovd (ovs S) k)).1 (addU S (ovd (ovs S) k)).2)))) := by
  obtain ⟨s0, z1, z2, z3⟩ := r_lo (h := h) hS hR
  unfold fX12_addsRule
  rw [z1, sb]
  cases hlo : lo S with
  | none =>
    refine ⟨s0, z2, fun k hk => (by cases hk), ?_⟩
    rw [if_pos (show i32 (natO none) = -1 from by decide)]
  | some k =>
    obtain ⟨k1, k2⟩ := z3 k hlo
    have hl := ovs_len hS
    obtain ⟨s1, s2, e1, e2, e3, e4, e5, e6, e7, e8, e9⟩ := r_ovk (h := h) hS (hR.rf z2 (Or.inl (by decide))) k1
    have hR2 : RR (s2.2 309) S := hR.rf (z2.tr e5) (Or.inl (by decide))
    refine ⟨s2, z2.tr e5, fun j hj => by cases hj; exact ⟨k1, k2⟩, ?_⟩
    rw [if_neg (show ¬ i32 (natO (some k)) = -1 from by rw [qm1, show natO (some k) = (k : Int) from rfl]; rw [eq32 (by omega) (by omega) (by omega) (by omega)]; omega), o_308, sb, show natO (some k) = (k : Int) from rfl, e1, sb, if_neg (by show ¬ (1 : Int32) = 0; decide), o_308, sb, e3, sb, if_neg k2, if_pos (show (0 : Int32) = 0 from rfl)]
    simp only [g_308_33, g_308_34, e6, e7, sb, o_308, r_cmp hS hR2 e8 e9]
    have hfin : ∀ (t0 : Int32) (u v : List Nat), (if t0 = 0 then i64 (r6 (end2 S (ovd (ovs S) k)) : Int) else i64 (r6 (end1 S (ovd (ovs S) k)) : Int)) = i64 (r6 u : Int) → (if t0 = 0 then i64 (r6 (end1 S (ovd (ovs S) k)) : Int) else i64 (r6 (end2 S (ovd (ovs S) k)) : Int)) = i64 (r6 v : Int) → fJX12_addsRule_m_98 (M h s2) (h + 308) t0 = some (1, M h (mL s2 309 (rowAdd (s2.2 309) (nr S) u v))) := by
      intro t0 u v hu hv
      have hlast : ∀ σ' : Mm, σ' = mL s2 309 (vp_updL (vp_updL (s2.2 309) (12 + nr S) (i64 (r6 u : Int))) (24 + nr S) (i64 (r6 v : Int))) → ((aL (M h σ') (h + 309) 1).bind fun v164 => (sL (M h σ') (h + 309) 1 (v164 + 1)).bind fun σ167 => some ((1 : Int32), σ167)) = some (1, M h (mL s2 309 (rowAdd (s2.2 309) (nr S) u v))) := by
        intro σ' hσ
        have ea : aL (M h σ') (h + 309) 1 = some (σ'.2 309 1) := by
          have := a_309 (h := h) (s := σ') (e := 1) (by decide) (by decide)
          exact this
        have es : ∀ w : Int64, sL (M h σ') (h + 309) 1 w = some (M h (mL σ' 309 (vp_updL (σ'.2 309) 1 w))) := by
          intro w
          have := s_309 (h := h) (s := σ') (e := 1) (v := w) (by decide) (by decide)
          exact this
        rw [ea, sb, es, sb, hσ, mL_at, updL_ne (by omega), updL_ne (by omega), hR2.2.1, Q1, a64, mL_mL]; rfl
      unfold fJX12_addsRule_m_98 fJX12_addsRule_m_131 fJX12_addsRule_m_157
      simp only [o_308, sb, r_rules hR2, g_308_1, g_308_33, g_308_34, e6, e7, q12, q24, a32]
      by_cases c : t0 = 0
      · rw [if_pos c] at hu hv
        simp only [c, if_true, hu, hv]
        simp only [s_309 (show (0 : Int) ≤ 12 + (nr S : Int) by omega) (show 12 + (nr S : Int) < 294 by omega), sb, g_308_1, g_308_33, mL_ne (show (308 : Nat) ≠ 309 by decide), e6, hv, s_309 (show (0 : Int) ≤ 24 + (nr S : Int) by omega) (show 24 + (nr S : Int) < 294 by omega), show ((12 : Int) + (nr S : Int)).toNat = 12 + nr S by omega, show ((24 : Int) + (nr S : Int)).toNat = 24 + nr S by omega, mL_at, mL_mL]
        exact hlast _ rfl
      · rw [if_neg c] at hu hv
        simp only [c, if_false, hu, hv]
        simp only [s_309 (show (0 : Int) ≤ 12 + (nr S : Int) by omega) (show 12 + (nr S : Int) < 294 by omega), sb, g_308_1, g_308_34, mL_ne (show (308 : Nat) ≠ 309 by decide), e7, hv, s_309 (show (0 : Int) ≤ 24 + (nr S : Int) by omega) (show 24 + (nr S : Int) < 294 by omega), show ((12 : Int) + (nr S : Int)).toNat = 12 + nr S by omega, show ((24 : Int) + (nr S : Int)).toNat = 24 + nr S by omega, mL_at, mL_mL]
        exact hlast _ rfl
    unfold addU
    rcases cmp3 S (end1 S (ovd (ovs S) k)) (end2 S (ovd (ovs S) k)) with e | e | e
    · rw [e, if_neg (by decide), hfin 1 (end1 S (ovd (ovs S) k)) (end2 S (ovd (ovs S) k)) (by rw [if_neg (by decide)]) (by rw [if_neg (by decide)])]; rfl
    · rw [e, if_pos (by decide), hfin 0 (end2 S (ovd (ovs S) k)) (end1 S (ovd (ovs S) k)) (by rw [if_pos rfl]) (by rw [if_pos rfl])]; rfl
    · rw [e, if_pos (by decide), hfin 0 (end2 S (ovd (ovs S) k)) (end1 S (ovd (ovs S) k)) (by rw [if_pos rfl]) (by rw [if_pos rfl])]; rfl
end CC
