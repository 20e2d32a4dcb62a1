/-! REACH in the reference: normal words, end, loop, far -/
section RF
variable {h : Nat} {s : Mm} {S : Sys} {L : RLs} {w : List Nat}
theorem q319 (hQ : RQ s 0 S.1 L) : aI (M h s) (h + 319) 0 0 = some (i32 (L.length : Int)) := by
  rw [q0, a_319 (by decide) (by decide)]
  exact congrArg some hQ.1
theorem q317 (hQ : RQ s 0 S.1 L) {k : Nat} (hk : k < L.length) : aL (M h s) (h + 317) (i32 (k : Int)) = some (i64 (r6 (lnk L k).1 : Int)) := by
  have := hQ.2.2.2.1
  rw [a_317 (by omega) (by omega), tn0]
  have := hQ.2.1 k hk
  rw [Nat.mul_zero, Nat.zero_add] at this
  rw [this]
theorem q318 (hQ : RQ s 0 S.1 L) {k : Nat} (hk : k < L.length) : aI (M h s) (h + 318) 0 (i32 (k : Int)) = some (i32 ((lnk L k).2 : Int)) := by
  have := hQ.2.2.2.1
  rw [a_318 (by omega) (by omega), tn0]
  have := hQ.2.2.1 k hk
  rw [Nat.mul_zero, Nat.zero_add] at this
  rw [this]
theorem r_normals (hS : WfS S) (hR : RR (s.2 309) S) (hQ : RQ s 0 S.1 L) : ∃ s' : Mm, fX12_normals (M h s) (h + 308) = some (i32 (nmS S L : Int), M h s') ∧ Rf [16, 17, 19] [18] 1 0 s s' := by
  have h200 := hQ.2.2.2.1
  have hK := hS.1.2
  obtain ⟨y, k1, k2⟩ := loop_rel (F := fLX12_normals_4 (h + 308)) (E := Empty) (fun (a : Nat) k => .inl (if stps S (lnk L k).1 = [] then a + 1 else a))
    (fun a k x => ∃ s' : Mm, x = (i32 (a : Int), i32 (k : Int), M h s') ∧ Rf [16, 17, 19] [18] 1 0 s s') (fun a y => ∃ s' : Mm, y = (i32 (a : Int), M h s') ∧ Rf [16, 17, 19] [18] 1 0 s s') (fun e _ => e.elim) L.length (by
      rintro a k x hk ⟨s', rfl, hF⟩
      have hQ' := hQ.rf hF
      obtain ⟨s1, n1, n2⟩ := r_isNormal (h := h) hS (hR.rf hF (Or.inr (by decide))) ((hQ.2.2.2.2.1 _ (lnk_mem hk)).ww hK)
      unfold fLX12_normals_4
      rw [g_308_27, sb, q319 hQ', sb, if_neg (by rw [le32 (by omega) (by omega) (by omega) (by omega)]; omega), g_308_25, sb, q317 hQ' hk, sb, o_308, sb, n1, sb]
      by_cases c : stps S (lnk L k).1 = []
      · rw [if_pos c, if_neg (by show ¬ (1 : Int32) = 0; decide), xlet_eq, xlet_eq, q1, a32, a32, if_pos c]
        exact ⟨_, rfl, _, rfl, s1, rfl, hF.tr n2⟩
      · rw [if_neg c, if_pos (show (0 : Int32) = 0 from rfl), xlet_eq, xlet_eq, q1, a32, q0, a32, Int.add_zero, if_neg c]
        exact ⟨_, rfl, _, rfl, s1, rfl, hF.tr n2⟩) (by
      rintro a x ⟨s', rfl, hF⟩
      have hQ' := hQ.rf hF
      unfold fLX12_normals_4
      rw [g_308_27, sb, q319 hQ', sb, if_pos (by rw [le32 (by omega) (by omega) (by omega) (by omega)]; omega)]
      exact ⟨_, rfl, s', rfl, hF⟩) (a := 0) (x := (0, 0, M h s)) ⟨s, rfl, Rf.rf⟩
  have efl : ∀ c : Nat, (List.range L.length).foldl (fun (a : Nat) k => if stps S (lnk L k).1 = [] then a + 1 else a) c = L.foldl (fun (a : Nat) (y : List Nat × Nat) => if stps S y.1 = [] then a + 1 else a) c := fun c => fold_list (fun (a : Nat) (y : List Nat × Nat) => if stps S y.1 = [] then a + 1 else a) ([], 0) L c
  rw [walk_fold, efl, filt_cnt (fun (y : List Nat × Nat) => stps S y.1 = []), Nat.zero_add] at k2
  obtain ⟨s', rfl, k3⟩ := k2
  refine ⟨s', ?_, k3⟩
  unfold fX12_normals
  rw [k1, sb]; rfl
theorem r_endOf (hS : WfS S) (hR : RR (s.2 309) S) (hQ : RQ s 0 S.1 L) : ∃ s' : Mm, fX12_endOf (M h s) (h + 308) = some (i32 (enS S L), M h s') ∧ Rf [16, 17, 19] [18] 1 0 s s' := by
  have h200 := hQ.2.2.2.1
  have hK := hS.1.2
  obtain ⟨y, k1, k2⟩ := loop_rel (F := fLX12_endOf_2 (h + 308)) (fun (_ : Unit) k => if decide (stps S (lnk L k).1 = []) then .inr k else .inl ())
    (fun _ k x => ∃ s' : Mm, x = (i32 (k : Int), M h s') ∧ Rf [16, 17, 19] [18] 1 0 s s') (fun _ y => ∃ s' : Mm, y = .inr (M h s') ∧ Rf [16, 17, 19] [18] 1 0 s s') (fun k y => ∃ s' : Mm, y = .inl (i32 (k : Int), M h s') ∧ Rf [16, 17, 19] [18] 1 0 s s') L.length (by
      rintro a k x hk ⟨s', rfl, hF⟩
      have hQ' := hQ.rf hF
      obtain ⟨s1, n1, n2⟩ := r_isNormal (h := h) hS (hR.rf hF (Or.inr (by decide))) ((hQ.2.2.2.2.1 _ (lnk_mem hk)).ww hK)
      unfold fLX12_endOf_2
      rw [g_308_27, sb, q319 hQ', sb, if_neg (by rw [le32 (by omega) (by omega) (by omega) (by omega)]; omega), g_308_25, sb, q317 hQ' hk, sb, o_308, sb, n1, sb]
      by_cases c : stps S (lnk L k).1 = []
      · rw [if_pos c, if_neg (by show ¬ (1 : Int32) = 0; decide), if_pos (decide_eq_true c)]
        exact ⟨_, rfl, _, rfl, s1, rfl, hF.tr n2⟩
      · rw [if_neg c, if_pos (show (0 : Int32) = 0 from rfl), xlet_eq, q1, a32, if_neg (by rw [decide_eq_true_eq]; exact c)]
        exact ⟨_, rfl, _, rfl, s1, rfl, hF.tr n2⟩) (by
      rintro a x ⟨s', rfl, hF⟩
      have hQ' := hQ.rf hF
      unfold fLX12_endOf_2
      rw [g_308_27, sb, q319 hQ', sb, if_pos (by rw [le32 (by omega) (by omega) (by omega) (by omega)]; omega)]
      exact ⟨_, rfl, s', rfl, hF⟩) (a := ()) (x := (0, M h s)) ⟨s, rfl, Rf.rf⟩
  rw [walk_find (fun k => decide (stps S (lnk L k).1 = []))] at k2
  unfold fX12_endOf enS
  rw [k1, sb, find_lnk (fun y => decide (stps S y.1 = []))]
  cases hf : (List.range L.length).find? (fun k => decide (stps S (lnk L k).1 = [])) with
  | none =>
    rw [hf] at k2
    obtain ⟨s', rfl, k3⟩ := k2
    exact ⟨s', rfl, k3⟩
  | some k =>
    rw [hf] at k2
    obtain ⟨s', rfl, k3⟩ := k2
    have hk := (find_some hf).1
    refine ⟨s', ?_, k3⟩
    simp only []
    rw [g_308_26, sb, q318 (hQ.rf k3) hk, sb]; rfl
theorem r_comesTo (hS : WfS S) (hR : RR (s.2 309) S) (hw : Wk S.1 w) {v : List Nat} (hv : Ww v) : ∃ s' : Mm, fX12_comesTo (M h s) (h + 308) (i64 (r6 w : Int)) (i64 (r6 v : Int)) = some (if v ∈ (stps S w).map (aft S w) then 1 else 0, M h s') ∧ Rf [16, 17, 19] [18] 1 0 s s' := by
  have hK := hS.1.2
  have hlen := stps_len hS (hw.ww hK)
  obtain ⟨y, k1, k2⟩ := loop_rel (F := fLX12_comesTo_3 (h + 308) (i64 (r6 w : Int)) (i64 (r6 v : Int))) (fun (_ : Unit) i => if decide (aft S w ((stps S w).getD i (0, 0)) = v) then .inr i else .inl ())
    (fun _ i x => ∃ s' : Mm, x = (i32 (i : Int), M h s') ∧ Rf [16, 17, 19] [18] 1 0 s s') (fun _ y => ∃ s' : Mm, y = .inr (M h s') ∧ Rf [16, 17, 19] [18] 1 0 s s') (fun _ y => ∃ s' : Mm, y = .inl (M h s') ∧ Rf [16, 17, 19] [18] 1 0 s s') (stps S w).length (by
      rintro a i x hi ⟨s', rfl, hF⟩
      have hgi : (stps S w)[i]? = some ((stps S w).getD i (0, 0)) := by
        rw [List.getD_eq_getElem?_getD, List.getElem?_eq_getElem hi]; rfl
      have hx := mem_stps.mp (List.mem_of_getElem? hgi)
      obtain ⟨s1, b, f1, f2, f3⟩ := r_finds (h := h) (k := (i : Int)) hS (hR.rf hF (Or.inr (by decide))) (hw.ww hK) (by omega)
      rcases f3 with ⟨x, -, hx2, rfl, -, -, hz⟩ | ⟨hx2, -⟩
      · rw [tn0, hgi] at hx2
        cases hx2
        unfold fLX12_comesTo_3
        rw [o_308, sb, f1, sb, if_neg (by show ¬ (1 : Int32) = 0; decide)]
        simp only [g_308_18, sb, hz]
        by_cases c : aft S w ((stps S w).getD i (0, 0)) = v
        · rw [if_pos (by rw [cmp0, c]), if_pos (decide_eq_true c)]
          exact ⟨_, rfl, _, rfl, s1, rfl, hF.tr f2⟩
        · rw [if_neg (by rw [cmp0, r6e ((aft_Wk hS hw hx).ww hK) hv]; exact c), if_neg (by rw [decide_eq_true_eq]; exact c), xlet_eq, q1, a32]
          exact ⟨_, rfl, _, rfl, s1, rfl, hF.tr f2⟩
      · rw [tn0, hgi] at hx2
        rcases hx2 with hx2 | hx2
        · omega
        · cases hx2) (by
      rintro a x ⟨s', rfl, hF⟩
      obtain ⟨s1, b, f1, f2, f3⟩ := r_finds (h := h) (k := ((stps S w).length : Int)) hS (hR.rf hF (Or.inr (by decide))) (hw.ww hK) (by omega)
      rcases f3 with ⟨x, -, hx2, rfl, -, -, hz⟩ | ⟨-, rfl, -⟩
      · rw [tn0, List.getElem?_eq_none (Nat.le_refl _)] at hx2
        cases hx2
      · unfold fLX12_comesTo_3
        rw [o_308, sb, f1, sb, if_pos (show (0 : Int32) = 0 from rfl)]
        exact ⟨_, rfl, s1, rfl, hF.tr f2⟩) (a := ()) (x := (0, M h s)) ⟨s, rfl, Rf.rf⟩
  rw [walk_find (fun i => decide (aft S w ((stps S w).getD i (0, 0)) = v))] at k2
  unfold fX12_comesTo
  rw [k1, sb]
  cases hf : (List.range (stps S w).length).find? (fun i => decide (aft S w ((stps S w).getD i (0, 0)) = v)) with
  | none =>
    rw [hf] at k2
    obtain ⟨s', rfl, k3⟩ := k2
    refine ⟨s', ?_, k3⟩
    rw [if_neg]
    intro hm
    obtain ⟨x, hx, e⟩ := List.mem_map.mp hm
    obtain ⟨j, hj, e2⟩ := mem_getD (d := (0, 0)) hx
    have := find_none hf j hj
    rw [decide_eq_false_iff_not, e2] at this
    exact this e
  | some i =>
    rw [hf] at k2
    obtain ⟨s', rfl, k3⟩ := k2
    obtain ⟨h1, h2, -⟩ := find_some hf
    refine ⟨s', ?_, k3⟩
    rw [if_pos]
    exact List.mem_map.mpr ⟨_, getD_mem h1, of_decide_eq_true h2⟩
theorem r_loopOf (hS : WfS S) (hR : RR (s.2 309) S) (hQ : RQ s 0 S.1 L) (h0 : 0 < L.length) : ∃ s' : Mm, fX12_loopOf (M h s) (h + 308) = some (i32 (lpS false S (lnk L 0).1 L), M h s') ∧ Rf [16, 17, 19] [18] 1 0 s s' := by
  have h200 := hQ.2.2.2.1
  have hK := hS.1.2
  have hw0 := (hQ.2.2.2.2.1 _ (lnk_mem h0)).ww hK
  have en : ∀ v, nxt false S v = (stps S v).map (aft S v) := fun v => by unfold nxt; simp
  obtain ⟨y, k1, k2⟩ := loop_rel (F := fLX12_loopOf_2 (h + 308)) (fun (_ : Unit) k => if decide ((lnk L 0).1 ∈ nxt false S (lnk L k).1) then .inr k else .inl ())
    (fun _ k x => ∃ s' : Mm, x = (i32 (k : Int), M h s') ∧ Rf [16, 17, 19] [18] 1 0 s s') (fun _ y => ∃ s' : Mm, y = .inr (M h s') ∧ Rf [16, 17, 19] [18] 1 0 s s') (fun k y => ∃ s' : Mm, y = .inl (i32 (k : Int), M h s') ∧ Rf [16, 17, 19] [18] 1 0 s s') L.length (by
      rintro a k x hk ⟨s', rfl, hF⟩
      have hQ' := hQ.rf hF
      obtain ⟨s1, n1, n2⟩ := r_comesTo (h := h) hS (hR.rf hF (Or.inr (by decide))) (hQ.2.2.2.2.1 _ (lnk_mem hk)) hw0
      have hz : aL (M h s') (h + 317) 0 = some (i64 (r6 (lnk L 0).1 : Int)) := q317 hQ' h0
      unfold fLX12_loopOf_2
      rw [g_308_27, sb, q319 hQ', sb, if_neg (by rw [le32 (by omega) (by omega) (by omega) (by omega)]; omega), g_308_25, sb, q317 hQ' hk, sb, sb, hz, sb, o_308, sb, n1, sb, en]
      by_cases c : (lnk L 0).1 ∈ (stps S (lnk L k).1).map (aft S (lnk L k).1)
      · rw [if_pos c, if_neg (by show ¬ (1 : Int32) = 0; decide), if_pos (decide_eq_true c)]
        exact ⟨_, rfl, _, rfl, s1, rfl, hF.tr n2⟩
      · rw [if_neg c, if_pos (show (0 : Int32) = 0 from rfl), xlet_eq, q1, a32, if_neg (by rw [decide_eq_true_eq]; exact c)]
        exact ⟨_, rfl, _, rfl, s1, rfl, hF.tr n2⟩) (by
      rintro a x ⟨s', rfl, hF⟩
      have hQ' := hQ.rf hF
      unfold fLX12_loopOf_2
      rw [g_308_27, sb, q319 hQ', sb, if_pos (by rw [le32 (by omega) (by omega) (by omega) (by omega)]; omega)]
      exact ⟨_, rfl, s', rfl, hF⟩) (a := ()) (x := (0, M h s)) ⟨s, rfl, Rf.rf⟩
  rw [walk_find (fun k => decide ((lnk L 0).1 ∈ nxt false S (lnk L k).1))] at k2
  unfold fX12_loopOf lpS
  rw [k1, sb, find_lnk (fun y => decide ((lnk L 0).1 ∈ nxt false S y.1))]
  cases hf : (List.range L.length).find? (fun k => decide ((lnk L 0).1 ∈ nxt false S (lnk L k).1)) with
  | none =>
    rw [hf] at k2
    obtain ⟨s', rfl, k3⟩ := k2
    exact ⟨s', rfl, k3⟩
  | some k =>
    rw [hf] at k2
    obtain ⟨s', rfl, k3⟩ := k2
    have hk := (find_some hf).1
    refine ⟨s', ?_, k3⟩
    simp only []
    rw [g_308_26, sb, q318 (hQ.rf k3) hk, sb, q1, a32]; rfl
theorem r_farAhead (hS : WfS S) (hR : RR (s.2 309) S) {x3 : Int64} (hQ : RQ s 0 S.1 L) {k : Nat} (hk : k < L.length) : ∃ s' : Mm, iterP (fLX12_farOf_40 (h + 308) x3 (i32 (k : Int)) (i64 (r6 (lnk L k).1 : Int))) (0, M h s) = some (M h s') ∧ FQ s 0 S.1 L (adds L ((stps S (lnk L k).1).map (aft S (lnk L k).1)) ((lnk L k).2 + 1)) s' := by
  have hK := hS.1.2
  have hwk := hQ.2.2.2.2.1 _ (lnk_mem hk)
  have h9 := hQ.2.2.2.2.2 k hk
  have h200 := hQ.2.2.2.1
  have hlen := stps_len hS (hwk.ww hK)
  obtain ⟨y, k1, k2⟩ := loop_rel (F := fLX12_farOf_40 (h + 308) x3 (i32 (k : Int)) (i64 (r6 (lnk L k).1 : Int))) (E := Empty) (fun (a : RLs) i => .inl (ins a (aft S (lnk L k).1 ((stps S (lnk L k).1).getD i (0, 0)), (lnk L k).2 + 1)))
    (fun a i x => ∃ s' : Mm, x = (i32 (i : Int), M h s') ∧ FQ s 0 S.1 L a s') (fun a y => ∃ s' : Mm, y = M h s' ∧ FQ s 0 S.1 L a s') (fun e _ => e.elim) (stps S (lnk L k).1).length (by
      rintro a i x hi ⟨s', rfl, hF⟩
      have hgi : (stps S (lnk L k).1)[i]? = some ((stps S (lnk L k).1).getD i (0, 0)) := by
        rw [List.getD_eq_getElem?_getD, List.getElem?_eq_getElem hi]; rfl
      have hx := mem_stps.mp (List.mem_of_getElem? hgi)
      obtain ⟨s1, b, f1, f2, f3⟩ := r_finds (h := h) (k := (i : Int)) hS (hR.rq hF.1) (hwk.ww hK) (by omega)
      rcases f3 with ⟨x, -, hx2, rfl, -, -, hz⟩ | ⟨hx2, -⟩
      · rw [tn0, hgi] at hx2
        cases hx2
        have hF1 : FQ s 0 S.1 L a s1 := ⟨hF.1.tr (RqF.of f2), hF.2.1.rf f2, hF.2.2⟩
        obtain ⟨s2, z1, z2⟩ := FQ.step (h := h) hK (by decide) hk h9 hF1 (aft_Wk hS hwk hx)
        have z1 : fX12_reaches _ _ 0 _ _ = _ := z1
        have hcm := (hF1.rd hk).1
        rw [Nat.mul_zero, Nat.zero_add] at hcm
        refine ⟨.inl (i32 ((i : Int) + 1), M h s2), ?_, _, rfl, s2, rfl, z2⟩
        unfold fLX12_farOf_40
        rw [o_308, sb, f1, sb, if_neg (by show ¬ (1 : Int32) = 0; decide), g_308_18, sb, hz, g_308_26, sb, a_318 (by omega) (by omega), tn0, hcm, sb, o_308, sb, q1, a32, z1, sb, xlet_eq, a32]
      · rw [tn0, hgi] at hx2
        rcases hx2 with hx2 | hx2
        · omega
        · cases hx2) (by
      rintro a x ⟨s', rfl, hF⟩
      obtain ⟨s1, b, f1, f2, f3⟩ := r_finds (h := h) (k := ((stps S (lnk L k).1).length : Int)) hS (hR.rq hF.1) (hwk.ww hK) (by omega)
      rcases f3 with ⟨x, -, hx2, rfl, -, -, hz⟩ | ⟨-, rfl, -⟩
      · rw [tn0, List.getElem?_eq_none (Nat.le_refl _)] at hx2
        cases hx2
      · refine ⟨M h s1, ?_, s1, rfl, hF.1.tr (RqF.of f2), hF.2.1.rf f2, hF.2.2⟩
        unfold fLX12_farOf_40
        rw [o_308, sb, f1, sb, if_pos (show (0 : Int32) = 0 from rfl)]) (a := L) (x := (0, M h s)) ⟨s, rfl, RqF.rf, hQ, List.prefix_refl L⟩
  rw [walk_fold, fold_list (fun a x => ins a (aft S (lnk L k).1 x, (lnk L k).2 + 1)) (0, 0)] at k2
  obtain ⟨s', rfl, k3⟩ := k2
  refine ⟨s', k1, ?_⟩
  unfold adds
  rw [List.foldl_map]
  exact k3
theorem r_farBack (hS : WfS S) {s0 : Mm} (hR : RR (s0.2 309) S) {x3 : Int64} {a0 : RLs} (hF0 : FQ s0 0 S.1 L a0 s) {k : Nat} (hk : k < L.length) (h9 : (lnk L k).2 ≤ k) (h200 : L.length ≤ 200) : ∃ s' : Mm, iterP (fLX12_farOf_78 (h + 308) x3 (i32 (k : Int)) (i64 (r6 (lnk L k).1 : Int))) (0, M h s) = some (M h s') ∧ FQ s0 0 S.1 L (adds a0 ((bks S (lnk L k).1).map (bkw S (lnk L k).1)) ((lnk L k).2 + 1)) s' := by
  have hK := hS.1.2
  have h12 := hS.2.1
  have hwk : Wk S.1 (lnk L k).1 := by
    have hl := List.IsPrefix.length_le hF0.2.2
    have := hF0.2.1.2.2.2.2.1 _ (lnk_mem (show k < a0.length by omega))
    rw [pre_lnk hF0.2.2 hk] at this
    exact this
  generalize hw' : (lnk L k).1 = w at *
  have hW := hwk.ww hK
  have h16 := hW.1
  have hin : ∀ (p : Nat), p < w.length + 1 → ∀ (a : RLs) (s' : Mm), FQ s0 0 S.1 L a s' → ∃ y, iterP (fLX12_farOf_91 (h + 308) x3 (i32 (k : Int)) (i64 (r6 w : Int)) (i32 (p : Int))) (0, M h s') = some y ∧ outc (E := Empty) (fun a' y => ∃ s'' : Mm, y = M h s'' ∧ FQ s0 0 S.1 L a' s'') (fun e _ => e.elim) (walk (fun a x => .inl (ins a (bkw S w x, (lnk L k).2 + 1))) a (bksAt S w p)) y := by
    intro p hp a s' hF
    rw [← convB_in]
    refine loop_rel _ (fun a r' x => ∃ s'' : Mm, x = (i32 (r' : Int), M h s'') ∧ FQ s0 0 S.1 L a s'') _ _ (nr S) ?_ ?_ ⟨s', rfl, hF⟩
    · rintro a r' x hr' ⟨s1, rfl, hF1⟩
      have hR1 := hR.rq hF1.1
      unfold fLX12_farOf_91
      simp only [o_308, sb, r_rules hR1]
      rw [if_neg (by rw [le32 (by omega) (by omega) (by omega) (by omega)]; omega)]
      simp only [r_left hS hR1 hr', r_right hS hR1 hr', sb, r_made hW (wr hS hr') (wl hS hr') (show p ≤ w.length by omega), mk6_no (u := rr S r') hW (wl hS hr') (show p ≤ w.length by omega)]
      by_cases c1 : fitB S w p r'
      · obtain ⟨s2, z1, z2⟩ := FQ.step (h := h) hK (by decide) hk h9 hF1 (bkw_Wk hS hwk (x := (p, r')) (by show p ≤ w.length; omega) hr' c1)
        have z1 : fX12_reaches _ _ 0 _ _ = _ := z1
        have hcm := (hF1.rd hk).1
        rw [Nat.mul_zero, Nat.zero_add] at hcm
        have em : mk6 w p (rr S r') (rl S r') = (r6 (bkw S w (p, r')) : Int) := by
          unfold mk6
          rw [if_pos c1]; rfl
        rw [if_neg (fun hn => hn c1), em, g_308_26, sb, a_318 (by omega) (by omega), tn0, hcm, sb, q1, a32, z1, sb, xlet_eq, a32]
        refine ⟨_, rfl, ?_⟩
        rw [if_pos c1]
        exact ⟨_, rfl, s2, rfl, z2⟩
      · rw [if_pos c1, xlet_eq, q1, a32]
        refine ⟨_, rfl, ?_⟩
        rw [if_neg c1]
        exact ⟨_, rfl, s1, rfl, hF1⟩
    · rintro a x ⟨s1, rfl, hF1⟩
      unfold fLX12_farOf_91
      simp only [o_308, sb, r_rules (hR.rq hF1.1)]
      rw [if_pos (by rw [le32 (by omega) (by omega) (by omega) (by omega)]; omega)]
      exact ⟨_, rfl, s1, rfl, hF1⟩
  obtain ⟨y, k1, k2⟩ := loop_rel (F := fLX12_farOf_78 (h + 308) x3 (i32 (k : Int)) (i64 (r6 w : Int))) (E := Empty) (fun (a : RLs) p => walk (fun a x => .inl (ins a (bkw S w x, (lnk L k).2 + 1))) a (bksAt S w p))
    (fun a p x => ∃ s' : Mm, x = (i32 (p : Int), M h s') ∧ FQ s0 0 S.1 L a s') (fun a y => ∃ s' : Mm, y = M h s' ∧ FQ s0 0 S.1 L a s') (fun e _ => e.elim) (w.length + 1) (by
      rintro a p x hp ⟨s', rfl, hF⟩
      obtain ⟨y, y1, y2⟩ := hin p hp a s' hF
      unfold fLX12_farOf_78
      rw [r_len hW, sb, if_neg (by rw [lt32 (by omega) (by omega) (by omega) (by omega)]; omega), y1, sb, xlet_eq, q1, a32]
      refine ⟨_, rfl, ?_⟩
      rw [walk_fold] at y2 ⊢
      obtain ⟨s'', rfl, h3⟩ := y2
      exact ⟨_, rfl, s'', rfl, h3⟩) (by
      rintro a x ⟨s', rfl, hF⟩
      unfold fLX12_farOf_78
      rw [r_len hW, sb, if_pos (by rw [lt32 (by omega) (by omega) (by omega) (by omega)]; omega)]
      exact ⟨_, rfl, s', rfl, hF⟩) (a := a0) (x := (0, M h s)) ⟨s, rfl, hF0⟩
  rw [convB_out, walk_fold] at k2
  obtain ⟨s', rfl, k3⟩ := k2
  refine ⟨s', k1, ?_⟩
  unfold adds
  rw [List.foldl_map]
  exact k3
theorem r_farLoop (hS : WfS S) (hR : RR (s.2 309) S) {x3 : Int64} : ∀ (n k : Nat) (L : RLs) (s' : Mm), k + n = 200 → RqF 0 s s' → RQ s' 0 S.1 L → k ≤ L.length → ∃ s'' : Mm, iterP (fLX12_farOf_17 (h + 308) x3) (i32 (k : Int), M h s') = some (M h s'') ∧ RqF 0 s s'' ∧ RQ s'' 0 S.1 (spF true S n k L) := by
  intro n
  have hend : ∀ (k : Nat) (L : RLs) (s' : Mm), RQ s' 0 S.1 L → L.length = k → iterP (fLX12_farOf_17 (h + 308) x3) (i32 (k : Int), M h s') = some (M h s') := by
    intro k L s' hQ hk
    have h200 := hQ.2.2.2.1
    rw [iterP_eq]
    unfold fLX12_farOf_17
    rw [g_308_27, sb, q319 hQ, sb, if_pos (by rw [le32 (by omega) (by omega) (by omega) (by omega)]; omega)]; rfl
  induction n with
  | zero =>
    intro k L s' hk hF hQ hkl
    have h200 := hQ.2.2.2.1
    exact ⟨s', hend k L s' hQ (by omega), hF, hQ⟩
  | succ n ih =>
    intro k L s' hk hF hQ hkl
    have h200 := hQ.2.2.2.1
    rw [spF]
    by_cases c0 : k < L.length
    · rw [if_pos c0]
      obtain ⟨s1, f1, f2⟩ := r_farAhead (h := h) (x3 := x3) hS (hR.rq hF) hQ c0
      obtain ⟨s2, g1, g2⟩ := r_farBack (h := h) (x3 := x3) hS (hR.rq hF) f2 c0 (hQ.2.2.2.2.2 k c0) h200
      have en : nxt true S (lnk L k).1 = (stps S (lnk L k).1).map (aft S (lnk L k).1) ++ (bks S (lnk L k).1).map (bkw S (lnk L k).1) := by
        unfold nxt; simp
      rw [← adds_app, ← en] at g2
      rw [iter_inl (x' := (i32 ((k + 1 : Nat) : Int), M h s2)) (by
        unfold fLX12_farOf_17
        rw [g_308_27, sb, q319 hQ, sb, if_neg (by rw [le32 (by omega) (by omega) (by omega) (by omega)]; omega), g_308_25, sb, q317 hQ c0, sb, f1, sb, g1, sb, xlet_eq, q1, a32]; rfl)]
      have := List.IsPrefix.length_le g2.2.2
      exact ih (k + 1) _ s2 (by omega) (hF.tr g2.1) g2.2.1 (by omega)
    · rw [if_neg c0]
      exact ⟨s', hend k L s' hQ (by omega), hF, hQ⟩
/-- FAR: the steps by which the other word came -/
def farS (S : Sys) (w v : List Nat) : Int := match (List.range (rch true S w).length).find? (fun j => decide ((lnk (rch true S w) j).1 = v)) with
  | some j => ((lnk (rch true S w) j).2 : Int)
  | none => -1
theorem r_farOf (hS : WfS S) (hR : RR (s.2 309) S) (hw : Wk S.1 w) {v : List Nat} (hv : Ww v) : ∃ s' : Mm, fX12_farOf (M h s) (h + 308) (i64 (r6 w : Int)) (i64 (r6 v : Int)) = some (i32 (farS S w v), M h s') ∧ RqF 0 s s' := by
  have hQ0 : RQ (mI s 319 (upd (s.1 319) 0 0)) 0 S.1 [] := ⟨by rw [mI_at, upd_at]; rfl, fun j hj => absurd hj (by simp), fun j hj => absurd hj (by simp), by simp, fun y hy => (by cases hy), fun j hj => absurd hj (by simp)⟩
  have hF0 : RqF 0 s (mI s 319 (upd (s.1 319) 0 0)) := ⟨Rf.rf.mI (by decide) (by decide) (by decide), fun j _ => ⟨rfl, by rw [mI_ne (by decide)]⟩, fun j hj => by rw [mI_at, upd_ne hj]⟩
  obtain ⟨s1, z1, z2, z3⟩ := r_reaches (h := h) hS.1.2 (by decide) hQ0 hw (n := 0) (by simp)
  have hin : ins [] (w, 0) = [(w, 0)] := by
    unfold ins
    rw [if_pos ⟨by decide, fun y hy => by cases hy⟩]; rfl
  rw [hin] at z3
  obtain ⟨s2, k1, k2, k3⟩ := r_farLoop (h := h) (x3 := i64 (r6 v : Int)) hS hR 200 0 [(w, 0)] s1 rfl (hF0.tr z2) z3 (by simp)
  have k3 : RQ s2 0 S.1 (rch true S w) := k3
  have z1 : fX12_reaches _ _ 0 _ 0 = _ := z1
  have k1 : iterP _ ((0 : Int32), M h s1) = _ := k1
  have hp : fX12_placeIn (M h s2) (h + 308) 0 (i64 (r6 v : Int)) = _ := r_place (h := h) hS.1.2 (by decide) k3 hv
  have hs : sI (M h s) (h + 319) 0 0 = some (M h (mI s 319 (upd (s.1 319) 0 0))) := by
    have := s_319 (h := h) (s := s) (e := 0) (v := 0) (by decide) (by decide)
    exact this
  have h200 := k3.2.2.2.1
  unfold fX12_farOf
  rw [g_308_27, sb, hs, sb, o_308, sb, z1, sb, k1, sb, o_308, sb, hp, sb]
  refine ⟨s2, ?_, k2⟩
  unfold farS plc
  cases hf : (List.range (rch true S w).length).find? (fun j => decide ((lnk (rch true S w) j).1 = v)) with
  | none => simp only []; rw [if_pos (by decide)]; rfl
  | some j =>
    have hj := (find_some hf).1
    simp only []
    rw [if_neg (by rw [qm1]; rw [eq32 (by omega) (by omega) (by omega) (by omega)]; omega), g_308_26, sb, q318 k3 hj, sb]
end RF
