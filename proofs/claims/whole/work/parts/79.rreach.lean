/-! REACH in the reference -/
def plc (L : RLs) (w : List Nat) : Int := match (List.range L.length).find? (fun j => decide ((lnk L j).1 = w)) with
  | some j => (j : Int)
  | none => -1
def RQ (s : Mm) (u K : Nat) (L : RLs) : Prop := s.1 319 u = i32 (L.length : Int) ∧ (∀ j, j < L.length → s.2 317 (200 * u + j) = i64 (r6 (lnk L j).1 : Int)) ∧ (∀ j, j < L.length → s.1 318 (200 * u + j) = i32 ((lnk L j).2 : Int)) ∧ L.length ≤ 200 ∧ (∀ y ∈ L, Wk K y.1) ∧ (∀ j, j < L.length → (lnk L j).2 ≤ j)
def RqF (u : Nat) (s s' : Mm) : Prop := Rf [16, 17, 19] [18] 317 319 s s' ∧ (∀ j, ¬ (200 * u ≤ j ∧ j < 200 * u + 200) → s'.2 317 j = s.2 317 j ∧ s'.1 318 j = s.1 318 j) ∧ (∀ j, j ≠ u → s'.1 319 j = s.1 319 j)
theorem RqF.rf {u : Nat} {s : Mm} : RqF u s s := ⟨Rf.rf, fun _ _ => ⟨rfl, rfl⟩, fun _ _ => rfl⟩
theorem RqF.tr {u : Nat} {s s' s'' : Mm} (h1 : RqF u s s') (h2 : RqF u s' s'') : RqF u s s'' := ⟨h1.1.tr h2.1, fun j hj => ⟨(h2.2.1 j hj).1.trans (h1.2.1 j hj).1, (h2.2.1 j hj).2.trans (h1.2.1 j hj).2⟩, fun j hj => (h2.2.2 j hj).trans (h1.2.2 j hj)⟩
theorem RqF.of {u : Nat} {s s' : Mm} (h : Rf [16, 17, 19] [18] 1 0 s s') : RqF u s s' := ⟨h.mono (by decide) (by decide) (Or.inr (by decide)), fun j _ => ⟨by rw [h.L 317 (by decide) (by decide)], by rw [h.I 318 (by decide) (by decide)]⟩, fun j _ => by rw [h.I 319 (by decide) (by decide)]⟩
theorem RQ.rf {s s' : Mm} {u K : Nat} {L : RLs} (hQ : RQ s u K L) (h : Rf [16, 17, 19] [18] 1 0 s s') : RQ s' u K L := by
  unfold RQ
  rw [h.L 317 (by decide) (by decide), h.I 318 (by decide) (by decide), h.I 319 (by decide) (by decide)]
  exact hQ
theorem find_lnk (P : List Nat × Nat → Bool) (L : RLs) : L.find? P = ((List.range L.length).find? (fun k => P (lnk L k))).map (lnk L) := by
  cases hf : (List.range L.length).find? (fun k => P (lnk L k)) with
  | none =>
    have h1 := find_none hf
    rw [Option.map_none, List.find?_eq_none]
    intro y hy
    obtain ⟨j, hj, e⟩ := mem_getD (d := ([], 0)) hy
    have := h1 j hj
    unfold lnk at this
    rw [e] at this
    rw [this]; decide
  | some k =>
    obtain ⟨h1, h2, h3⟩ := find_some hf
    rw [Option.map_some, List.find?_eq_some_iff_getElem]
    have hg : ∀ j (hj : j < L.length), L[j] = lnk L j := fun j hj => by
      unfold lnk
      rw [List.getD_eq_getElem?_getD, List.getElem?_eq_getElem hj]; rfl
    refine ⟨h2, k, h1, hg k h1, fun j hj => ?_⟩
    rw [hg j (by omega), h3 j hj]; rfl
section RF
variable {h : Nat} {s : Mm} {S : Sys} {L : RLs} {w : List Nat} {u : Nat}
theorem r_place {K : Nat} (hK : K ≤ 5) (hu : u ≤ 1) (hQ : RQ s u K L) (hw : Ww w) : fX12_placeIn (M h s) (h + 308) (i32 (u : Int)) (i64 (r6 w : Int)) = some (i32 (plc L w)) := by
  obtain ⟨i1, i2, i3, i4, i5, i6⟩ := hQ
  have hn : aI (M h s) (h + 319) 0 (i32 (u : Int)) = some (i32 (L.length : Int)) := by
    rw [a_319 (by omega) (by omega), tn0, i1]
  unfold fX12_placeIn
  rw [loop_find (fun j => decide ((lnk L j).1 = w)) (fun j => i32 (j : Int)) (.inr ()) (fun j => .inl (i32 (j : Int))) L.length ?_ ?_ (show (0 : Int32) = _ from rfl), sb]
  · unfold plc
    cases (List.range L.length).find? (fun j => decide ((lnk L j).1 = w)) with
    | none => rfl
    | some j => rfl
  · intro j hj
    unfold fLX12_placeIn_3
    rw [g_308_27, sb, hn, sb, if_neg (by rw [le32 (by omega) (by omega) (by omega) (by omega)]; omega), g_308_25, sb, q200, m32, a32, a_317 (by omega) (by omega), sb, show ((200 : Int) * (u : Int) + (j : Int)).toNat = 200 * u + j by omega, i2 j hj]
    by_cases c : (lnk L j).1 = w
    · rw [if_pos (by rw [cmp0, c]), if_pos (decide_eq_true c)]
    · rw [if_neg (by rw [cmp0, r6e ((i5 _ (lnk_mem hj)).ww hK) hw]; exact c), if_neg (by rw [decide_eq_true_eq]; exact c), xlet_eq, q1, a32]; rfl
  · unfold fLX12_placeIn_3
    rw [g_308_27, sb, hn, sb, if_pos (by rw [le32 (by omega) (by omega) (by omega) (by omega)]; omega)]
theorem plc_b : -1 ≤ plc L w ∧ plc L w ≤ L.length := by
  unfold plc
  cases hf : (List.range L.length).find? (fun j => decide ((lnk L j).1 = w)) with
  | none => simp only []; omega
  | some j => have := (find_some hf).1; simp only []; omega
theorem plc_ins {n : Nat} : ins L (w, n) = if L.length < 200 ∧ plc L w = -1 then L ++ [(w, n)] else L := by
  unfold ins plc
  have : (∀ y ∈ L, y.1 ≠ w) ↔ (match (List.range L.length).find? (fun j => decide ((lnk L j).1 = w)) with
      | some j => (j : Int)
      | none => -1) = -1 := by
    cases hf : (List.range L.length).find? (fun j => decide ((lnk L j).1 = w)) with
    | none =>
      have h1 := find_none hf
      refine ⟨fun _ => rfl, fun _ y hy => ?_⟩
      obtain ⟨j, hj, e⟩ := mem_getD (d := ([], 0)) hy
      have := h1 j hj
      rw [decide_eq_false_iff_not] at this
      unfold lnk at this
      rw [e] at this
      exact this
    | some j =>
      obtain ⟨h1, h2, -⟩ := find_some hf
      refine ⟨fun hy => absurd (of_decide_eq_true h2) (hy _ (lnk_mem h1)), fun e => ?_⟩
      simp only [] at e
      omega
  by_cases c : L.length < 200
  · by_cases c2 : ∀ y ∈ L, y.1 ≠ w
    · rw [if_pos ⟨c, c2⟩, if_pos ⟨c, this.mp c2⟩]
    · rw [if_neg (fun e => c2 e.2), if_neg (fun e => c2 (this.mpr e.2))]
  · rw [if_neg (fun e => c e.1), if_neg (fun e => c e.1)]
theorem r_reaches {K : Nat} (hK : K ≤ 5) (hu : u ≤ 1) (hQ : RQ s u K L) (hw : Wk K w) {n : Nat} (hn : n ≤ L.length) : ∃ s' : Mm, fX12_reaches (M h s) (h + 308) (i32 (u : Int)) (i64 (r6 w : Int)) (i32 (n : Int)) = some (M h s') ∧ RqF u s s' ∧ RQ s' u K (ins L (w, n)) := by
  have hpb := plc_b (L := L) (w := w)
  obtain ⟨i1, i2, i3, i4, i5, i6⟩ := id hQ
  have hnn : aI (M h s) (h + 319) 0 (i32 (u : Int)) = some (i32 (L.length : Int)) := by
    rw [a_319 (by omega) (by omega), tn0, i1]
  unfold fX12_reaches
  rw [g_308_27, sb, hnn, sb, plc_ins]
  by_cases c : L.length = 200
  · rw [if_pos (by rw [q200]; rw [eq32 (by omega) (by omega) (by omega) (by omega)]; omega), if_neg (by omega)]
    exact ⟨s, rfl, RqF.rf, hQ⟩
  · rw [if_neg (by rw [q200]; rw [eq32 (by omega) (by omega) (by omega) (by omega)]; omega), o_308, sb, r_place hK hu hQ (hw.ww hK), sb]
    by_cases c2 : plc L w = -1
    · rw [if_pos (by rw [c2]; decide), if_pos ⟨by omega, c2⟩]
      have et : ((200 : Int) * (u : Int) + (L.length : Int)).toNat = 200 * u + L.length := by omega
      simp only [g_308_25, sb, q200, m32, a32, s_317 (show (0 : Int) ≤ 200 * (u : Int) + (L.length : Int) by omega) (show 200 * (u : Int) + (L.length : Int) < 400 by omega), g_308_26, s_318 (show (0 : Int) ≤ 200 * (u : Int) + (L.length : Int) by omega) (show 200 * (u : Int) + (L.length : Int) < 400 by omega), g_308_27, a_319 (show (0 : Int) ≤ (u : Int) by omega) (show (u : Int) < 2 by omega), s_319 (show (0 : Int) ≤ (u : Int) by omega) (show (u : Int) < 2 by omega), et, tn0, mL1, mI_ne (show (319 : Nat) ≠ 318 by decide), i1, q1, a32]
      refine ⟨_, rfl, ⟨((Rf.rf.mL (by decide) (by decide) (by decide)).mI (by decide) (by decide) (by decide)).mI (by decide) (by decide) (by decide), ?_, ?_⟩, ?_⟩
      · intro j hj
        rw [mI2, mI2, mL_at, updL_ne (by omega), mI_ne (by decide), mI_at, upd_ne (by omega)]
        exact ⟨rfl, rfl⟩
      · intro j hj
        rw [mI_at, upd_ne hj]
      · refine ⟨?_, ?_, ?_, by rw [lnk_len]; omega, ?_, ?_⟩
        · rw [mI_at, upd_at, lnk_len]; rfl
        · intro j hj
          rw [lnk_len] at hj
          rw [mI2, mI2, mL_at]
          by_cases cj : j = L.length
          · subst cj
            rw [updL_at, lnk_snoc2]
          · rw [updL_ne (by omega), lnk_snoc1 (by omega)]
            exact i2 j (by omega)
        · intro j hj
          rw [lnk_len] at hj
          rw [mI_ne (by decide), mI_at]
          by_cases cj : j = L.length
          · subst cj
            rw [upd_at, lnk_snoc2]
          · rw [upd_ne (by omega), lnk_snoc1 (by omega)]
            exact i3 j (by omega)
        · intro y hy
          rcases List.mem_append.mp hy with hy | hy
          · exact i5 y hy
          · rw [List.mem_singleton.mp hy]; exact hw
        · intro j hj
          rw [lnk_len] at hj
          by_cases cj : j = L.length
          · subst cj
            rw [lnk_snoc2]; exact hn
          · rw [lnk_snoc1 (by omega)]
            exact i6 j (by omega)
    · rw [if_neg (by rw [qm1]; rw [eq32 (by omega) (by omega) (by omega) (by omega)]; omega), if_neg (fun e => c2 e.2)]
      exact ⟨s, rfl, RqF.rf, hQ⟩
/-- while a word's steps are followed -/
def FQ (s : Mm) (u K : Nat) (L : RLs) (a : RLs) (s' : Mm) : Prop := RqF u s s' ∧ RQ s' u K a ∧ L <+: a
theorem FQ.step {K : Nat} (hK : K ≤ 5) (hu : u ≤ 1) {k : Nat} (hk : k < L.length) (hL : (lnk L k).2 ≤ k) {a : RLs} {s' : Mm} (hF : FQ s u K L a s') {v : List Nat} (hv : Wk K v) : ∃ s'' : Mm, fX12_reaches (M h s') (h + 308) (i32 (u : Int)) (i64 (r6 v : Int)) (i32 (((lnk L k).2 : Int) + 1)) = some (M h s'') ∧ FQ s u K L (ins a (v, (lnk L k).2 + 1)) s'' := by
  obtain ⟨h1, h2, h3⟩ := hF
  have hl := List.IsPrefix.length_le h3
  obtain ⟨s'', z1, z2, z3⟩ := r_reaches (h := h) hK hu h2 hv (n := (lnk L k).2 + 1) (by omega)
  exact ⟨s'', z1, h1.tr z2, z3, List.IsPrefix.trans h3 (ins_pre _ _)⟩
theorem FQ.rd {K : Nat} {k : Nat} (hk : k < L.length) {a : RLs} {s' : Mm} (hF : FQ s u K L a s') : s'.1 318 (200 * u + k) = i32 ((lnk L k).2 : Int) ∧ s'.2 317 (200 * u + k) = i64 (r6 (lnk L k).1 : Int) := by
  obtain ⟨h1, h2, h3⟩ := hF
  have hl := List.IsPrefix.length_le h3
  exact ⟨by rw [h2.2.2.1 k (by omega), pre_lnk h3 hk], by rw [h2.2.1 k (by omega), pre_lnk h3 hk]⟩
theorem RR.rq {s' : Mm} (hR : RR (s.2 309) S) (h : RqF u s s') : RR (s'.2 309) S := hR.rf h.1 (Or.inl (by decide))
/-- the two inner loops that follow steps ahead -/
theorem r_follow (hS : WfS S) (hR : RR (s.2 309) S) (hu : u ≤ 1) (hQ : RQ s u S.1 L) {k : Nat} (hk : k < L.length) : ∃ s' : Mm, iterP (fLX12_laysReach_46 (h + 308) (i32 (u : Int)) (i32 (k : Int)) (i64 (r6 (lnk L k).1 : Int))) (0, M h s) = some (M h s') ∧ FQ s u S.1 L (adds L ((stps S (lnk L k).1).map (aft S (lnk L k).1)) ((lnk L k).2 + 1)) s' := by
  have hK := hS.1.2
  have hwk := hQ.2.2.2.2.1 _ (lnk_mem hk)
  have h9 := hQ.2.2.2.2.2 k hk
  have h200 := hQ.2.2.2.1
  have hlen := stps_len hS (hwk.ww hK)
  obtain ⟨y, k1, k2⟩ := loop_rel (F := fLX12_laysReach_46 (h + 308) (i32 (u : Int)) (i32 (k : Int)) (i64 (r6 (lnk L k).1 : Int))) (E := Empty) (fun (a : RLs) i => .inl (ins a (aft S (lnk L k).1 ((stps S (lnk L k).1).getD i (0, 0)), (lnk L k).2 + 1)))
    (fun a i x => ∃ s' : Mm, x = (i32 (i : Int), M h s') ∧ FQ s u S.1 L a s') (fun a y => ∃ s' : Mm, y = M h s' ∧ FQ s u S.1 L a s') (fun e _ => e.elim) (stps S (lnk L k).1).length (by
      rintro a i x hi ⟨s', rfl, hF⟩
      have hgi : (stps S (lnk L k).1)[i]? = some ((stps S (lnk L k).1).getD i (0, 0)) := by
        rw [List.getD_eq_getElem?_getD, List.getElem?_eq_getElem hi]; rfl
      have hx := mem_stps.mp (List.mem_of_getElem? hgi)
      obtain ⟨s1, b, f1, f2, f3⟩ := r_finds (h := h) (k := (i : Int)) hS (hR.rq hF.1) (hwk.ww hK) (by omega)
      rcases f3 with ⟨x, -, hx2, rfl, -, -, hz⟩ | ⟨hx2, -⟩
      · rw [tn0, hgi] at hx2
        cases hx2
        have hF1 : FQ s u S.1 L a s1 := ⟨hF.1.tr (RqF.of f2), hF.2.1.rf f2, hF.2.2⟩
        obtain ⟨s2, z1, z2⟩ := FQ.step (h := h) hK hu hk h9 hF1 (aft_Wk hS hwk hx)
        refine ⟨.inl (i32 ((i : Int) + 1), M h s2), ?_, _, rfl, s2, rfl, z2⟩
        unfold fLX12_laysReach_46
        rw [o_308, sb, f1, sb, if_neg (by show ¬ (1 : Int32) = 0; decide)]
        simp only [g_308_18, sb, hz, g_308_26, q200, m32, a32, a_318 (show (0 : Int) ≤ 200 * (u : Int) + (k : Int) by omega) (show 200 * (u : Int) + (k : Int) < 400 by omega), show ((200 : Int) * (u : Int) + (k : Int)).toNat = 200 * u + k by omega, (hF1.rd hk).1, q1, o_308, z1, xlet_eq]
      · rw [tn0, hgi] at hx2
        rcases hx2 with hx2 | hx2
        · omega
        · cases hx2) (by
      rintro a x ⟨s', rfl, hF⟩
      obtain ⟨s1, b, f1, f2, f3⟩ := r_finds (h := h) (k := ((stps S (lnk L k).1).length : Int)) hS (hR.rq hF.1) (hwk.ww hK) (by omega)
      rcases f3 with ⟨x, -, hx2, rfl, -, -, hz⟩ | ⟨-, rfl, -⟩
      · rw [tn0, List.getElem?_eq_none (Nat.le_refl _)] at hx2
        cases hx2
      · refine ⟨M h s1, ?_, s1, rfl, hF.1.tr (RqF.of f2), hF.2.1.rf f2, hF.2.2⟩
        unfold fLX12_laysReach_46
        rw [o_308, sb, f1, sb, if_pos (show (0 : Int32) = 0 from rfl)]) (a := L) (x := (0, M h s)) ⟨s, rfl, RqF.rf, hQ, List.prefix_refl L⟩
  rw [walk_fold, fold_list (fun a x => ins a (aft S (lnk L k).1 x, (lnk L k).2 + 1)) (0, 0)] at k2
  obtain ⟨s', rfl, k3⟩ := k2
  refine ⟨s', k1, ?_⟩
  unfold adds
  rw [List.foldl_map]
  exact k3
theorem r_reachLoop (hS : WfS S) (hR : RR (s.2 309) S) (hu : u ≤ 1) : ∀ (n k : Nat) (L : RLs) (s' : Mm), k + n = 200 → RqF u s s' → RQ s' u S.1 L → k ≤ L.length → ∃ s'' : Mm, iterP (fLX12_laysReach_17 (h + 308) (i32 (u : Int))) (i32 (k : Int), M h s') = some (M h s'') ∧ RqF u s s'' ∧ RQ s'' u S.1 (spF false S n k L) := by
  intro n
  have hend : ∀ (k : Nat) (L : RLs) (s' : Mm), RQ s' u S.1 L → L.length = k → iterP (fLX12_laysReach_17 (h + 308) (i32 (u : Int))) (i32 (k : Int), M h s') = some (M h s') := by
    intro k L s' hQ hk
    have h200 := hQ.2.2.2.1
    rw [iterP_eq]
    unfold fLX12_laysReach_17
    rw [g_308_27, sb, a_319 (by omega) (by omega), tn0, hQ.1, sb, if_pos (by rw [le32 (by omega) (by omega) (by omega) (by omega)]; omega)]; rfl
  induction n with
  | zero =>
    intro k L s' hk hF hQ hkl
    have h200 := hQ.2.2.2.1
    exact ⟨s', hend k L s' hQ (by omega), hF, hQ⟩
  | succ n ih =>
    intro k L s' hk hF hQ hkl
    have h200 := hQ.2.2.2.1
    rw [spF]
    by_cases c0 : k < L.length
    · rw [if_pos c0]
      obtain ⟨s1, f1, f2⟩ := r_follow (h := h) hS (hR.rq hF) hu hQ c0
      have en : nxt false S (lnk L k).1 = (stps S (lnk L k).1).map (aft S (lnk L k).1) := by
        unfold nxt; simp
      rw [← en] at f2
      rw [iter_inl (x' := (i32 ((k + 1 : Nat) : Int), M h s1)) (by
        unfold fLX12_laysReach_17
        rw [g_308_27, sb, a_319 (by omega) (by omega), tn0, hQ.1, sb, if_neg (by rw [le32 (by omega) (by omega) (by omega) (by omega)]; omega), g_308_25, sb, q200, m32, a32, a_317 (by omega) (by omega), sb, show ((200 : Int) * (u : Int) + (k : Int)).toNat = 200 * u + k by omega, hQ.2.1 k c0, f1, sb, xlet_eq, q1, a32]; rfl)]
      have := List.IsPrefix.length_le f2.2.2
      exact ih (k + 1) _ s1 (by omega) (hF.tr f2.1) f2.2.1 (by omega)
    · rw [if_neg c0]
      exact ⟨s', hend k L s' hQ (by omega), hF, hQ⟩
theorem r_laysReach (hS : WfS S) (hR : RR (s.2 309) S) (hu : u ≤ 1) (hw : Wk S.1 w) : ∃ s' : Mm, fX12_laysReach (M h s) (h + 308) (i32 (u : Int)) (i64 (r6 w : Int)) = some (M h s') ∧ RqF u s s' ∧ RQ s' u S.1 (rch false S w) := by
  have hQ0 : RQ (mI s 319 (upd (s.1 319) u 0)) u S.1 [] := ⟨by rw [mI_at, upd_at]; rfl, fun j hj => absurd hj (by simp), fun j hj => absurd hj (by simp), by simp, fun y hy => (by cases hy), fun j hj => absurd hj (by simp)⟩
  have hF0 : RqF u s (mI s 319 (upd (s.1 319) u 0)) := ⟨Rf.rf.mI (by decide) (by decide) (by decide), fun j _ => ⟨rfl, by rw [mI_ne (by decide)]⟩, fun j hj => by rw [mI_at, upd_ne hj]⟩
  obtain ⟨s1, z1, z2, z3⟩ := r_reaches (h := h) hS.1.2 hu hQ0 hw (n := 0) (by simp)
  have hin : ins [] (w, 0) = [(w, 0)] := by
    unfold ins
    rw [if_pos ⟨by decide, fun y hy => by cases hy⟩]; rfl
  rw [hin] at z3
  obtain ⟨s2, k1, k2, k3⟩ := r_reachLoop (h := h) hS hR hu 200 0 [(w, 0)] s1 rfl (hF0.tr z2) z3 (by simp)
  refine ⟨s2, ?_, k2, k3⟩
  have z1 : fX12_reaches _ _ _ _ 0 = _ := z1
  have k1 : iterP _ ((0 : Int32), M h s1) = _ := k1
  unfold fX12_laysReach
  rw [g_308_27, sb, s_319 (by omega) (by omega), tn0, sb, o_308, sb, z1, sb, k1, sb]
end RF
