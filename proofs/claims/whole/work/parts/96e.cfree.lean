/-! FREE in the class: the states -/
theorem loop_ex {α β : Type} {F : α → Option (α ⊕ β)} (P : Nat → α → Prop) (Fin : β → Prop) (n : Nat) (hs : ∀ k x, k < n → P k x → ∃ x', F x = some (.inl x') ∧ P (k + 1) x') (he : ∀ x, P n x → ∃ y, F x = some (.inr y) ∧ Fin y) {x : α} (h0 : P 0 x) : ∃ y, iterP F x = some y ∧ Fin y := by
  obtain ⟨y, h1, h2⟩ := loop_rel (F := F) (E := Empty) (fun (_ : Unit) (_ : Nat) => .inl ()) (fun _ k x => P k x) (fun _ y => Fin y) (fun e _ => e.elim) n (fun a r x hr hx => by
    obtain ⟨x', e1, e2⟩ := hs r x hr hx
    exact ⟨_, e1, x', rfl, e2⟩) (fun a x hx => he x hx) (a := ()) (x := x) h0
  refine ⟨y, h1, ?_⟩
  rw [walk_fold] at h2
  exact h2
def AV (s : Mm) (K : Nat) (Q : List (List Nat)) : Prop := s.1 272 2 = i32 (Q.length : Int) ∧ Q.length ≤ 85 ∧ (∀ j, j < Q.length → s.2 273 j = i64 (cw (Q.getD j []) : Int)) ∧ (∀ w ∈ Q, w.length ≤ 7 ∧ ∀ x ∈ w, x < K)
def stO (Q : List (List Nat)) (w : List Nat) : Option Nat := (List.range Q.length).find? (fun j => decide (Q.getD j [] = w))
def oI (o : Option Nat) : Int := match o with
  | some j => (j : Int)
  | none => -1
theorem stO_none {Q : List (List Nat)} {w : List Nat} (e : stO Q w = none) : w ∉ Q := by
  intro hm
  obtain ⟨j, hj, ej⟩ := mem_getD (d := []) hm
  have := find_none e j hj
  rw [decide_eq_false_iff_not] at this
  exact this ej
theorem stO_some {Q : List (List Nat)} {w : List Nat} {j : Nat} (e : stO Q w = some j) : j < Q.length ∧ Q.getD j [] = w := by
  have := find_some e
  exact ⟨this.1, of_decide_eq_true this.2.1⟩
section FC
variable {h : Nat} {s : Mm} {S : Sys} {Q : List (List Nat)}
theorem AV.ww {K : Nat} (hK : K ≤ 5) (hA : AV s K Q) {j : Nat} (hj : j < Q.length) : Ww (Q.getD j []) := by
  have := hA.2.2.2 _ (getD_mem (d := []) hj)
  exact ⟨by omega, fun x hx => Nat.lt_of_lt_of_le (this.2 x hx) hK⟩
theorem c_stateOf {K : Nat} (hK : K ≤ 5) (hA : AV s K Q) {w : List Nat} (hw : Ww w) : fX1_stateOf (M h s) (h + 272) (i64 (cw w : Int)) = some (i32 (oI (stO Q w))) := by
  have h85 := hA.2.1
  unfold fX1_stateOf stO
  rw [loop_find (fun j => decide (Q.getD j [] = w)) (fun j => i32 (j : Int)) (.inr ()) (fun j => .inl (i32 (j : Int))) Q.length ?_ ?_ (show (0 : Int32) = _ from rfl), sb]
  · cases (List.range Q.length).find? (fun j => decide (Q.getD j [] = w)) <;> rfl
  · intro j hj
    unfold fLX1_stateOf_2
    rw [g_272_2, sb, hA.1, if_neg (by rw [le32 (by omega) (by omega) (by omega) (by omega)]; omega), g_272_1, sb, a_273 (by omega) (by omega), sb, tn0, hA.2.2.1 j hj]
    by_cases c : Q.getD j [] = w
    · rw [if_pos (by rw [cmp0, c]), if_pos (decide_eq_true c)]
    · rw [if_neg (by rw [cmp0, cwe (hA.ww hK hj) hw]; exact c), if_neg (by rw [decide_eq_true_eq]; exact c), xlet_eq, q1, a32]; rfl
  · unfold fLX1_stateOf_2
    rw [g_272_2, sb, hA.1, if_pos (by rw [le32 (by omega) (by omega) (by omega) (by omega)]; omega)]
theorem c_isLeft (hS : WfS S) (hR : RS s 3 S) {w : List Nat} (hw : Ww w) : fX1_isLeft (M h s) (h + 272) (i64 (cw w : Int)) = some (if ∃ r, r < nr S ∧ rl S r = w then 1 else 0) := by
  have h12 := hS.2.1
  unfold fX1_isLeft
  rw [loop_find (fun r => decide (rl S r = w)) (fun j => i32 (j : Int)) (.inr ()) (fun _ => .inl ()) (nr S) ?_ ?_ (show (0 : Int32) = _ from rfl), sb]
  · cases e : (List.range (nr S)).find? (fun r => decide (rl S r = w)) with
    | none =>
      have := find_none e
      rw [if_neg (fun ⟨r, hr, er⟩ => by have := this r hr; rw [decide_eq_false_iff_not] at this; exact this er)]
    | some k =>
      have := find_some e
      rw [if_pos ⟨k, this.1, of_decide_eq_true this.2.1⟩]
  · intro j hj
    unfold fLX1_isLeft_2
    rw [g_272_0, sb, g_3_1, sb, hR.2.1, if_neg (by rw [le32 (by omega) (by omega) (by omega) (by omega)]; omega), sb, g_3_2, sb, rdl hS hR hj, sb]
    by_cases c : rl S j = w
    · rw [if_pos (by rw [cmp0, c]), if_pos (decide_eq_true c)]
    · rw [if_neg (by rw [cmp0, cwe (wl hS hj) hw]; exact c), if_neg (by rw [decide_eq_true_eq]; exact c), xlet_eq, q1, a32]; rfl
  · unfold fLX1_isLeft_2
    rw [g_272_0, sb, g_3_1, sb, hR.2.1, if_pos (by rw [le32 (by omega) (by omega) (by omega) (by omega)]; omega)]
/-- what gathering keeps -/
def GQ (s s' : Mm) (K : Nat) (Q : List (List Nat)) : Prop := Fr 272 273 s s' ∧ (∀ t, t ≠ 2 → s'.1 272 t = s.1 272 t) ∧ AV s' K Q ∧ 1 ≤ Q.length ∧ Q.getD 0 [] = [] ∧ (∀ v x, v ++ [x] ∈ Q → v ∈ Q)
theorem c_gatherIn (hS : WfS S) (hR : RS s 3 S) {s1 : Mm} (hG : GQ s s1 S.1 Q) {r : Nat} (hr : r < nr S) (hq : Q.length ≤ 1 + 7 * r) : ∃ s' Q', iterP (fLX1_gatherStates_40 (h + 272) (i32 (r : Int)) (i32 ((rl S r).length : Int))) (1, M h s1) = some (M h s') ∧ GQ s s' S.1 Q' ∧ Q'.length ≤ 1 + 7 * (r + 1) ∧ (∀ w ∈ Q, w ∈ Q') ∧ ((rl S r).length ≤ 8 → ∀ v x, rl S r = v ++ [x] → v ∈ Q') := by
  have hK := hS.1.2
  have h12 := hS.2.1
  have hl := wl hS hr
  have hl16 := hl.1
  have hne := (hS.2.2.1 r hr).2.2
  have hpos : 0 < (rl S r).length := List.length_pos_iff.mpr hne
  by_cases c8 : (rl S r).length ≤ 8
  · have key : ∃ y, iterP (fLX1_gatherStates_40 (h + 272) (i32 (r : Int)) (i32 ((rl S r).length : Int))) (1, M h s1) = some y ∧ (∃ s' Q', y = M h s' ∧ GQ s s' S.1 Q' ∧ Q'.length ≤ Q.length + ((rl S r).length - 1) ∧ (∀ w ∈ Q, w ∈ Q') ∧ (∀ j, j ≤ (rl S r).length - 1 → (rl S r).take j ∈ Q')) := by
      refine loop_ex (fun k x => ∃ s' Q', x = (i32 ((k : Int) + 1), M h s') ∧ GQ s s' S.1 Q' ∧ Q'.length ≤ Q.length + k ∧ (∀ w ∈ Q, w ∈ Q') ∧ (∀ j, j ≤ k → (rl S r).take j ∈ Q')) (fun y => ∃ s' Q', y = M h s' ∧ GQ s s' S.1 Q' ∧ Q'.length ≤ Q.length + ((rl S r).length - 1) ∧ (∀ w ∈ Q, w ∈ Q') ∧ (∀ j, j ≤ (rl S r).length - 1 → (rl S r).take j ∈ Q')) ((rl S r).length - 1) (fun k x hk hx => ?_) (fun x hx => ?_) ⟨s1, Q, rfl, hG, Nat.le_refl _, fun w hw => hw, fun j hj => ?_⟩
      · obtain ⟨s2, Q2, rfl, g1, g2, g3, g4⟩ := hx
        obtain ⟨f1, f2, f3, f4, f5, f6⟩ := g1
        have hR2 : RS s2 3 S := hR.fr f1 (by omega)
        have hwk : Ww ((rl S r).take (k + 1)) := hl.take _
        have ep : fX10_part (i64 (cw (rl S r) : Int)) 0 (i32 ((k : Int) + 1)) = some (i64 (cw ((rl S r).take (k + 1)) : Int)) := by
          have := c_part hl (p := 0) (n := k + 1) (by omega)
          rw [List.drop_zero] at this
          exact this
        have hlt : (k : Int) + 1 ≤ 2147483647 := by omega
        unfold fLX1_gatherStates_40
        rw [if_neg (by rw [le32 (by omega) (by omega) (by omega) (by omega)]; omega), q8, if_neg (by rw [lt32 (by omega) (by omega) (by omega) (by omega)]; omega), g_272_0, sb, g_3_2, sb, rdl hS hR2 hr, sb, ep, sb, o_272, sb, c_stateOf hK f3 hwk, sb]
        cases e : stO Q2 ((rl S r).take (k + 1)) with
        | some j =>
          have ej := stO_some e
          refine ⟨(i32 (((k + 1 : Nat) : Int) + 1), M h s2), ?_, s2, Q2, rfl, ⟨f1, f2, f3, f4, f5, f6⟩, by omega, g3, fun i hi => ?_⟩
          · rw [if_neg (by rw [qm1]; unfold oI; have := f3.2.1; simp only []; rw [eq32 (by omega) (by omega) (by omega) (by omega)]; omega), xlet_eq, q1, a32]; rfl
          · by_cases c : i ≤ k
            · exact g4 i c
            · rw [show i = k + 1 by omega, ← ej.2]; exact getD_mem ej.1
        | none =>
          have ej := stO_none e
          have hA2 : AV (mI (mL s2 273 (vp_updL (s2.2 273) Q2.length (i64 (cw ((rl S r).take (k + 1)) : Int)))) 272 (upd (s2.1 272) 2 (i32 ((Q2.length : Int) + 1)))) S.1 (Q2 ++ [(rl S r).take (k + 1)]) := by
            refine ⟨?_, ?_, fun j hj => ?_, fun w hw => ?_⟩
            · rw [mI_at, upd_at, List.length_append]; rfl
            · rw [List.length_append]; show Q2.length + 1 ≤ 85; omega
            · rw [List.length_append] at hj
              refine (congrFun (mL_at (s := s2) (i := 273) (f := vp_updL (s2.2 273) Q2.length (i64 (cw ((rl S r).take (k + 1)) : Int)))) j).trans ?_
              by_cases c : j = Q2.length
              · subst c
                rw [updL_at, getD_app2]
              · rw [updL_ne c, getD_app1 (by have : [(rl S r).take (k + 1)].length = 1 := rfl; omega), f3.2.2.1 j (by have : [(rl S r).take (k + 1)].length = 1 := rfl; omega)]
            · rcases List.mem_append.mp hw with hw | hw
              · exact f3.2.2.2 w hw
              · rw [List.mem_singleton.mp hw]
                exact ⟨by rw [List.length_take]; omega, fun x hx => (hS.2.2.1 r hr).1.2 x (List.mem_of_mem_take hx)⟩
          refine ⟨(i32 (((k + 1 : Nat) : Int) + 1), M h (mI (mL s2 273 (vp_updL (s2.2 273) Q2.length (i64 (cw ((rl S r).take (k + 1)) : Int)))) 272 (upd (s2.1 272) 2 (i32 ((Q2.length : Int) + 1))))), ?_, _, Q2 ++ [(rl S r).take (k + 1)], rfl, ⟨?_, ?_, hA2, ?_, ?_, ?_⟩, ?_, ?_, ?_⟩
          · rw [if_pos (by rfl), g_272_2, sb, f3.1, if_neg (by rw [show (85 : Int32) = i32 85 from rfl]; rw [le32 (by omega) (by omega) (by omega) (by omega)]; omega), g_272_1, sb, sb, s_273 (by omega) (by omega), sb, g_272_2, sb, w_272_2, sb, xlet_eq, q1, a32, tn0]
            show some (Sum.inl (_, M h (mI _ 272 (upd (s2.1 272) 2 (s2.1 272 2 + 1))))) = _
            rw [f3.1, q1, a32]; rfl
          · exact (f1.mL (by omega) (by omega)).mI (by omega) (by omega)
          · intro t ht
            rw [mI_at, upd_ne ht]; exact f2 t ht
          · rw [List.length_append]; omega
          · rw [getD_app1 (by omega)]; exact f5
          · intro v x hv
            rcases List.mem_append.mp hv with hv | hv
            · exact List.mem_append_left _ (f6 v x hv)
            · have ev := List.mem_singleton.mp hv
              refine List.mem_append_left _ ?_
              have hvl : v.length = k := by
                have := congrArg List.length ev
                rw [List.length_append, List.length_take, show [x].length = 1 from rfl] at this; omega
              have := congrArg (List.take k) ev
              rw [← hvl, List.take_left, hvl, List.take_take, Nat.min_eq_left (by omega)] at this
              rw [this]; exact g4 k (Nat.le_refl _)
          · rw [List.length_append]; show Q2.length + 1 ≤ _; omega
          · exact fun w hw => List.mem_append_left _ (g3 w hw)
          · intro i hi
            by_cases c : i ≤ k
            · exact List.mem_append_left _ (g4 i c)
            · rw [show i = k + 1 by omega]; exact List.mem_append_right _ (List.mem_singleton.mpr rfl)
      · obtain ⟨s2, Q2, rfl, g1⟩ := hx
        refine ⟨M h s2, ?_, s2, Q2, rfl, g1⟩
        unfold fLX1_gatherStates_40
        rw [if_pos (by rw [le32 (by omega) (by omega) (by omega) (by omega)]; omega)]
      · rw [show j = 0 by omega, List.take_zero, ← hG.2.2.2.2.1]
        exact getD_mem (by have := hG.2.2.2.1; omega)
    obtain ⟨y, e1, s', Q', e2, g1, g2, g3, g4⟩ := key
    subst e2
    refine ⟨s', Q', e1, g1, by omega, g3, fun _ v x e => ?_⟩
    have := g4 v.length (by rw [e, List.length_append]; show _ ≤ v.length + 1 - 1; omega)
    rw [e, List.take_left] at this
    exact this
  · refine ⟨s1, Q, ?_, hG, by omega, fun w hw => hw, fun c => absurd c c8⟩
    refine iter_to 0 (fun _ => (1, M h s1)) rfl (fun k hk => absurd hk (by omega)) ?_
    unfold fLX1_gatherStates_40
    rw [q8, q1, if_neg (by rw [le32 (by omega) (by omega) (by omega) (by omega)]; omega), if_pos (by rw [lt32 (by omega) (by omega) (by omega) (by omega)]; omega)]
theorem c_states (hS : WfS S) (hR : RS s 3 S) : ∃ s' Q, fX1_gatherStates (M h s) (h + 272) = some (M h s') ∧ Fr 272 273 s s' ∧ (∀ t, t ≠ 2 → s'.1 272 t = s.1 272 t) ∧ AV s' S.1 Q ∧ 1 ≤ Q.length ∧ Q.getD 0 [] = [] ∧ QF S Q := by
  have h12 := hS.2.1
  have hA0 : AV (mI (mL s 273 (vp_updL (s.2 273) 0 0)) 272 (upd (s.1 272) 2 1)) S.1 [[]] := by
    refine ⟨?_, by decide, fun j hj => ?_, fun w hw => ?_⟩
    · rw [mI_at, upd_at]; rfl
    · have hj0 : j = 0 := by have : [([] : List Nat)].length = 1 := rfl; omega
      subst hj0
      refine (congrFun (mL_at (s := s) (i := 273) (f := vp_updL (s.2 273) 0 0)) 0).trans ?_
      rw [updL_at]; rfl
    · rw [List.mem_singleton.mp hw]
      exact ⟨by decide, fun x hx => absurd hx List.not_mem_nil⟩
  have hG0 : GQ s (mI (mL s 273 (vp_updL (s.2 273) 0 0)) 272 (upd (s.1 272) 2 1)) S.1 [[]] := by
    refine ⟨(Fr.rf.mL (by omega) (by omega)).mI (by omega) (by omega), fun t ht => by rw [mI_at, upd_ne ht], hA0, by decide, rfl, fun v x hv => ?_⟩
    have := congrArg List.length (List.mem_singleton.mp hv)
    rw [List.length_append] at this
    exact absurd this (Nat.succ_ne_zero _)
  have key : ∃ y, iterP (fLX1_gatherStates_14 (h + 272)) (0, M h (mI (mL s 273 (vp_updL (s.2 273) 0 0)) 272 (upd (s.1 272) 2 1))) = some y ∧ (∃ s' Q, y = M h s' ∧ GQ s s' S.1 Q ∧ (∀ r, r < nr S → (rl S r).length ≤ 8 → ∀ v x, rl S r = v ++ [x] → v ∈ Q)) := by
    refine loop_ex (fun r x => ∃ s' Q, x = (i32 (r : Int), M h s') ∧ GQ s s' S.1 Q ∧ Q.length ≤ 1 + 7 * r ∧ (∀ r', r' < r → (rl S r').length ≤ 8 → ∀ v x, rl S r' = v ++ [x] → v ∈ Q)) (fun y => ∃ s' Q, y = M h s' ∧ GQ s s' S.1 Q ∧ (∀ r, r < nr S → (rl S r).length ≤ 8 → ∀ v x, rl S r = v ++ [x] → v ∈ Q)) (nr S) (fun r x hr hx => ?_) (fun x hx => ?_) ⟨_, [[]], rfl, hG0, by decide, fun r' hr' => absurd hr' (by omega)⟩
    · obtain ⟨s1, Q, rfl, g1, g2, g3⟩ := hx
      have hR1 : RS s1 3 S := hR.fr g1.1 (by omega)
      obtain ⟨s2, Q2, e1, e2, e3, e4, e5⟩ := c_gatherIn (h := h) hS hR g1 hr g2
      refine ⟨(i32 ((r + 1 : Nat) : Int), M h s2), ?_, s2, Q2, rfl, e2, e3, fun r' hr' c8 v x e => ?_⟩
      · unfold fLX1_gatherStates_14
        rw [g_272_0, sb, g_3_1, sb, hR1.2.1, if_neg (by rw [le32 (by omega) (by omega) (by omega) (by omega)]; omega), sb, g_3_2, sb, rdl hS hR1 hr, sb, c_len (wl hS hr), sb, e1, sb, xlet_eq, q1, a32]; rfl
      · by_cases c : r' = r
        · subst c
          exact e5 c8 v x e
        · exact e4 v (g3 r' (by omega) c8 v x e)
    · obtain ⟨s1, Q, rfl, g1, g2, g3⟩ := hx
      have hR1 : RS s1 3 S := hR.fr g1.1 (by omega)
      refine ⟨M h s1, ?_, s1, Q, rfl, g1, g3⟩
      unfold fLX1_gatherStates_14
      rw [g_272_0, sb, g_3_1, sb, hR1.2.1, if_pos (by rw [le32 (by omega) (by omega) (by omega) (by omega)]; omega)]
  obtain ⟨y, e1, s', Q, rfl, ⟨g1, g2, g3, g4, g5, g6⟩, g7⟩ := key
  refine ⟨s', Q, ?_, g1, g2, g3, g4, g5, ?_, g6, g7⟩
  · unfold fX1_gatherStates
    have e0 := s_273 (h := h) (s := s) (e := 0) (v := 0) (by omega) (by omega)
    rw [g_272_1, sb, show sL (M h s) (h + 273) 0 0 = _ from e0, sb, w_272_2, sb]
    show (iterP (fLX1_gatherStates_14 (h + 272)) (0, M h (mI (mL s 273 (vp_updL (s.2 273) 0 0)) 272 (upd (s.1 272) 2 1)))).bind _ = _
    rw [e1, sb]
  · rw [← g5]; exact getD_mem (by omega)
end FC
