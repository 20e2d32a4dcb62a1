/-! THE REFERENCE: a run -/
def RunJ (K : Nat) (s' : Mm) (t : List (List Nat)) (c : List (Nat × Nat)) (w : List Nat) : Prop :=
  s'.1 308 23 = i32 (t.length : Int) ∧ (∀ j, j < t.length → s'.2 314 j = i64 (r6 (t.getD j []) : Int)) ∧ s'.2 314 t.length = i64 (r6 w : Int) ∧ c.length = t.length ∧ (∀ j, j < c.length → s'.1 315 j = i32 ((c.getD j (0, 0)).1 : Int) ∧ s'.1 316 j = i32 ((c.getD j (0, 0)).2 : Int)) ∧ Wk K w ∧ ∀ v ∈ t, Wk K v
section RF
variable {h : Nat} {s : Mm} {S : Sys} {w : List Nat}
theorem RunJ.rf {K : Nat} {s' s'' : Mm} {t : List (List Nat)} {c : List (Nat × Nat)} (hJ : RunJ K s' t c w) (hf : Rf [16, 17, 19] [18] 1 0 s' s'') : RunJ K s'' t c w := by
  unfold RunJ
  rw [hf.2.1 23 (by decide), hf.L 314 (by decide) (by decide), hf.I 315 (by decide) (by decide), hf.I 316 (by decide) (by decide)]
  exact hJ
theorem r_wasAhead {K : Nat} (hK : K ≤ 5) {t : List (List Nat)} {c : List (Nat × Nat)} (hI : RunJ K s t c w) (ht : t.length ≤ 60) : fX12_wasAhead (M h s) (h + 308) (i64 (r6 w : Int)) = some (if w ∈ t then 1 else 0) := by
  obtain ⟨i1, i2, i3, -, -, i6, i7⟩ := hI
  unfold fX12_wasAhead
  rw [loop_find (fun j => decide (t.getD j [] = w)) (fun j => i32 (j : Int)) (.inr ()) (fun _ => .inl ()) t.length ?_ ?_ (show (0 : Int32) = _ from rfl), sb]
  · cases hf : (List.range t.length).find? (fun j => decide (t.getD j [] = w)) with
    | none =>
      have := find_none hf
      rw [if_neg (fun hm => ?_)]
      obtain ⟨j, hj, e⟩ := mem_getD (d := []) hm
      have := this j hj
      rw [e] at this
      simp at this
    | some j =>
      obtain ⟨h1, h2, -⟩ := find_some hf
      rw [if_pos]
      rw [← of_decide_eq_true h2]; exact getD_mem h1
  · intro j hj
    unfold fLX12_wasAhead_2
    rw [g_308_23, sb, i1, if_neg (by rw [le32 (by omega) (by omega) (by omega) (by omega)]; omega)]
    simp only [g_308_20, sb, a_314 (show (0 : Int) ≤ (j : Int) by omega) (show (j : Int) < 61 by omega), tn0, i2 j hj, cmp0, r6e ((i7 _ (getD_mem hj)).ww hK) (i6.ww hK)]
    by_cases c1 : t.getD j [] = w
    · rw [if_pos c1, if_pos (decide_eq_true c1)]
    · rw [if_neg c1, if_neg (by rw [decide_eq_true_eq]; exact c1), xlet_eq, q1, a32]; rfl
  · unfold fLX12_wasAhead_2
    rw [g_308_23, sb, i1, if_pos (by rw [le32 (by omega) (by omega) (by omega) (by omega)]; omega)]
theorem iter_inl {α β : Type} {F : α → Option (α ⊕ β)} {x x' : α} (hb : F x = some (.inl x')) : iterP F x = iterP F x' := by
  rw [iterP_eq, hb]; rfl
def RunP (s s' : Mm) (o : List (List Nat) × List (Nat × Nat) × List Nat × Nat) : Prop :=
  Rf [16, 17, 19, 23, 24] [18] 314 316 s s' ∧ s'.1 308 24 = i32 (o.2.2.2 : Int) ∧ s'.1 308 23 = i32 (o.2.1.length : Int) ∧ (∀ j, j < o.2.1.length → s'.1 315 j = i32 ((o.2.1.getD j (0, 0)).1 : Int) ∧ s'.1 316 j = i32 ((o.2.1.getD j (0, 0)).2 : Int)) ∧ (∀ j, j < o.2.1.length → s'.2 314 j = i64 (r6 (o.1.getD j []) : Int)) ∧ s'.2 314 o.2.1.length = i64 (r6 o.2.2.1 : Int) ∧ o.1.length = o.2.1.length ∧ o.2.1.length ≤ 60
theorem r_runEnd {s' : Mm} {t : List (List Nat)} {c : List (Nat × Nat)} {x3 : Int32} (hF : Rf [16, 17, 19, 23, 24] [18] 314 316 s s') (hI : RunJ S.1 s' t c w) (ht : t.length ≤ 60) (e : Nat) (he : e ≤ 2) : ∃ s'', iterP (fLX12_runs_17 (h + 308) x3) (M h (mI s' 308 (upd (s'.1 308) 24 (i32 (e : Int))))) = some (M h s'') ∧ RunP s s'' (t, c, w, e) := by
  obtain ⟨i1, i2, i3, i4, i5, i6, i7⟩ := hI
  refine ⟨mI s' 308 (upd (s'.1 308) 24 (i32 (e : Int))), ?_, hF.fI (by decide), ?_, ?_, ?_, ?_, ?_, i4.symm, by show c.length ≤ 60; omega⟩
  · rw [iterP_eq]
    unfold fLX12_runs_17
    rw [g_308_24, sb, mI_at, upd_at, if_neg (by rw [qm1]; rw [eq32 (by omega) (by omega) (by omega) (by omega)]; omega)]; rfl
  · rw [mI_at, upd_at]
  · rw [mI_at, upd_ne (by decide), i1, ← i4]
  · intro j hj
    rw [mI_ne (by decide), mI_ne (by decide)]
    exact i5 j hj
  · intro j hj
    rw [mI2]
    exact i2 j (by rw [← i4]; exact hj)
  · rw [mI2]
    show s'.2 314 c.length = _
    rw [i4]; exact i3
theorem r_runLoop (hS : WfS S) (hR : RR (s.2 309) S) {way : Nat} (hway : way ≤ 2) : ∀ (n : Nat) (t : List (List Nat)) (c : List (Nat × Nat)) (w : List Nat) (s' : Mm), t.length + n = 60 → Rf [16, 17, 19, 23, 24] [18] 314 316 s s' → s'.1 308 24 = i32 (-1) → RunJ S.1 s' t c w →
    ∃ s'' : Mm, iterP (fLX12_runs_17 (h + 308) (i32 (way : Int))) (M h s') = some (M h s'') ∧ RunP s s'' (runF S way n t c w) := by
  intro n
  induction n with
  | zero =>
    intro t c w s' hn hF h24 hI
    have hR' := hR.rf hF (Or.inl (by decide))
    obtain ⟨i1, i2, i3, i4, i5, i6, i7⟩ := id hI
    have hK := hS.1.2
    obtain ⟨s1, n1, n2⟩ := r_isNormal (h := h) hS hR' (i6.ww hK)
    have hI1 := hI.rf n2
    have hF1 : Rf [16, 17, 19, 23, 24] [18] 314 316 s s1 := hF.tr (n2.mono (by decide) (by decide) (Or.inr (by decide)))
    have hrd : aL (M h s') (h + 314) (i32 (t.length : Int)) = some (i64 (r6 w : Int)) := by
      rw [a_314 (by omega) (by omega), tn0, i3]
    rw [runF]
    by_cases c0 : stps S w = []
    · rw [(chs_none hway).mpr c0]
      have hb : fLX12_runs_17 (h + 308) (i32 (way : Int)) (M h s') = some (.inl (M h (mI s1 308 (upd (s1.1 308) 24 (i32 ((0 : Nat) : Int)))))) := by
        unfold fLX12_runs_17
        rw [g_308_24, sb, h24, if_pos (show i32 (-1) = (-1 : Int32) from by decide)]
        simp only [g_308_20, g_308_23, sb, i1, hrd, o_308, n1]
        rw [if_pos c0, if_neg (by decide), w_308_24, sb]; rfl
      rw [iter_inl hb]
      exact r_runEnd hF1 hI1 (by omega) 0 (by decide)
    · cases hc : chs S w way with
      | none => exact absurd ((chs_none hway).mp hc) c0
      | some x =>
        by_cases c1 : w ∈ t
        · simp only [c1, if_true]
          have hb : fLX12_runs_17 (h + 308) (i32 (way : Int)) (M h s') = some (.inl (M h (mI s1 308 (upd (s1.1 308) 24 (i32 ((1 : Nat) : Int)))))) := by
            unfold fLX12_runs_17
            rw [g_308_24, sb, h24, if_pos (show i32 (-1) = (-1 : Int32) from by decide)]
            simp only [g_308_20, g_308_23, sb, i1, hrd, o_308, n1]
            rw [if_neg c0, if_pos rfl, r_wasAhead hK hI1 (by omega), sb, if_pos c1, if_neg (by decide), w_308_24, sb]; rfl
          rw [iter_inl hb]
          exact r_runEnd hF1 hI1 (by omega) 1 (by decide)
        · simp only [c1, if_false]
          have hb : fLX12_runs_17 (h + 308) (i32 (way : Int)) (M h s') = some (.inl (M h (mI s1 308 (upd (s1.1 308) 24 (i32 ((2 : Nat) : Int)))))) := by
            unfold fLX12_runs_17
            rw [g_308_24, sb, h24, if_pos (show i32 (-1) = (-1 : Int32) from by decide)]
            simp only [g_308_20, g_308_23, sb, i1, hrd, o_308, n1]
            rw [if_neg c0, if_pos rfl, r_wasAhead hK hI1 (by omega), sb, if_neg c1, if_pos rfl, hI1.1, if_pos (by rw [q60]; rw [eq32 (by omega) (by omega) (by omega) (by omega)]; omega), w_308_24, sb]; rfl
          rw [iter_inl hb]
          exact r_runEnd hF1 hI1 (by omega) 2 (by decide)
  | succ n ih =>
    intro t c w s' hn hF h24 hI
    have hR' := hR.rf hF (Or.inl (by decide))
    obtain ⟨i1, i2, i3, i4, i5, i6, i7⟩ := id hI
    have hK := hS.1.2
    obtain ⟨s1, n1, n2⟩ := r_isNormal (h := h) hS hR' (i6.ww hK)
    have hI1 := hI.rf n2
    have hF1 : Rf [16, 17, 19, 23, 24] [18] 314 316 s s1 := hF.tr (n2.mono (by decide) (by decide) (Or.inr (by decide)))
    have hrd : aL (M h s') (h + 314) (i32 (t.length : Int)) = some (i64 (r6 w : Int)) := by
      rw [a_314 (by omega) (by omega), tn0, i3]
    rw [runF]
    by_cases c0 : stps S w = []
    · rw [(chs_none hway).mpr c0]
      have hb : fLX12_runs_17 (h + 308) (i32 (way : Int)) (M h s') = some (.inl (M h (mI s1 308 (upd (s1.1 308) 24 (i32 ((0 : Nat) : Int)))))) := by
        unfold fLX12_runs_17
        rw [g_308_24, sb, h24, if_pos (show i32 (-1) = (-1 : Int32) from by decide)]
        simp only [g_308_20, g_308_23, sb, i1, hrd, o_308, n1]
        rw [if_pos c0, if_neg (by decide), w_308_24, sb]; rfl
      rw [iter_inl hb]
      exact r_runEnd hF1 hI1 (by omega) 0 (by decide)
    · cases hc : chs S w way with
      | none => exact absurd ((chs_none hway).mp hc) c0
      | some x =>
        by_cases c1 : w ∈ t
        · simp only [c1, if_true]
          have hb : fLX12_runs_17 (h + 308) (i32 (way : Int)) (M h s') = some (.inl (M h (mI s1 308 (upd (s1.1 308) 24 (i32 ((1 : Nat) : Int)))))) := by
            unfold fLX12_runs_17
            rw [g_308_24, sb, h24, if_pos (show i32 (-1) = (-1 : Int32) from by decide)]
            simp only [g_308_20, g_308_23, sb, i1, hrd, o_308, n1]
            rw [if_neg c0, if_pos rfl, r_wasAhead hK hI1 (by omega), sb, if_pos c1, if_neg (by decide), w_308_24, sb]; rfl
          rw [iter_inl hb]
          exact r_runEnd hF1 hI1 (by omega) 1 (by decide)
        · simp only [c1, if_false]
          have hR1 := hR'.rf n2 (Or.inr (by decide))
          obtain ⟨s2, i, x', p1, p2, p3, p4⟩ := r_stepBy (h := h) hS hR1 i6 hway c0
          rw [hc] at p4
          cases p4
          have hil : i < 192 := Nat.lt_of_lt_of_le (List.getElem?_eq_some_iff.mp p3).1 (stps_len hS (i6.ww hK))
          obtain ⟨s3, b, f1, f2, f3⟩ := r_finds (h := h) (k := (i : Int)) hS (hR1.rf p2 (Or.inr (by decide))) (i6.ww hK) (by omega)
          have hI3 := (hI1.rf p2).rf f2
          have hF3 : Rf [16, 17, 19, 23, 24] [18] 314 316 s s3 := (hF1.tr (p2.mono (by decide) (by decide) (Or.inr (by decide)))).tr (f2.mono (by decide) (by decide) (Or.inr (by decide)))
          rcases f3 with ⟨y, -, hy, rfl, y1, y2, y3⟩ | ⟨hy, -⟩
          · rw [tn0, p3] at hy
            cases hy
            have hx := mem_stps.mp (List.mem_of_getElem? p3)
            obtain ⟨j1, j2, j3, j4, j5, j6, j7⟩ := id hI3
            have e24 : s3.1 308 24 = i32 (-1) := by
              rw [f2.2.1 24 (by decide), p2.2.1 24 (by decide), n2.2.1 24 (by decide), h24]
            have hb : fLX12_runs_17 (h + 308) (i32 (way : Int)) (M h s') = some (.inl (M h (mL (mI (mI (mI s3 315 (upd (s3.1 315) t.length (i32 (x.1 : Int)))) 316 (upd (s3.1 316) t.length (i32 (x.2 : Int)))) 308 (upd (s3.1 308) 23 (i32 ((t.length : Int) + 1)))) 314 (vp_updL (s3.2 314) (t.length + 1) (i64 (r6 (aft S w x) : Int)))))) := by
              unfold fLX12_runs_17
              rw [g_308_24, sb, h24, if_pos (show i32 (-1) = (-1 : Int32) from by decide)]
              simp only [g_308_20, g_308_23, sb, i1, hrd, o_308, n1]
              rw [if_neg c0, if_pos rfl, r_wasAhead hK hI1 (by omega), sb, if_neg c1, if_pos rfl, hI1.1, if_neg (by rw [q60]; rw [eq32 (by omega) (by omega) (by omega) (by omega)]; omega)]
              simp only [p1, sb, f1, o_308, g_308_21, g_308_22, g_308_23, g_308_16, g_308_17, g_308_20, g_308_18, j1, y1, y2, s_315 (show (0 : Int) ≤ (t.length : Int) by omega) (show (t.length : Int) < 60 by omega), s_316 (show (0 : Int) ≤ (t.length : Int) by omega) (show (t.length : Int) < 60 by omega), tn0, mI_ne (show (308 : Nat) ≠ 315 by decide), mI_ne (show (308 : Nat) ≠ 316 by decide), mI_ne (show (316 : Nat) ≠ 315 by decide), q1, a32, w_308_23, mI_at, upd_at, mI2, y3, s_314 (show (0 : Int) ≤ (t.length : Int) + 1 by omega) (show (t.length : Int) + 1 < 61 by omega), tn1]
            rw [iter_inl hb]
            refine ih (t ++ [w]) (c ++ [x]) (aft S w x) _ (by rw [List.length_append]; show t.length + 1 + n = 60; omega) ?_ ?_ ?_
            · exact ((((hF3.mI (by decide) (by decide) (by decide)).mI (by decide) (by decide) (by decide)).fI (v := i32 ((t.length : Int) + 1)) (j := 23) (by decide)).mL (by decide) (by decide) (by decide))
            · rw [mL1, mI_at, upd_ne (by decide), e24]
            · refine ⟨?_, ?_, ?_, ?_, ?_, aft_Wk hS i6 hx, ?_⟩
              · rw [mL1, mI_at, upd_at, List.length_append]; rfl
              · intro j hj
                rw [mL_at]
                rw [List.length_append, show [w].length = 1 from rfl] at hj
                by_cases c2 : j = t.length
                · subst c2
                  rw [updL_ne (by omega), j3, getD_app2]
                · rw [updL_ne (by omega), j2 j (by omega), getD_app1 (by omega)]
              · rw [mL_at, List.length_append, show [w].length = 1 from rfl, updL_at]
              · rw [List.length_append, List.length_append, j4]; rfl
              · intro j hj
                rw [mL1, mI_ne (show (315 : Nat) ≠ 308 by decide), mI_ne (show (315 : Nat) ≠ 316 by decide), mI_at, mI_ne (show (316 : Nat) ≠ 308 by decide), mI_at]
                rw [List.length_append, show [x].length = 1 from rfl] at hj
                by_cases c2 : j = c.length
                · subst c2
                  rw [j4, upd_at, upd_at, ← j4, getD_app2]
                  exact ⟨rfl, rfl⟩
                · rw [upd_ne (by omega), upd_ne (by omega), getD_app1 (by omega)]
                  exact j5 j (by omega)
              · intro v hv
                rcases List.mem_append.mp hv with hv | hv
                · exact i7 v hv
                · rw [List.mem_singleton.mp hv]; exact i6
          · rw [tn0, p3] at hy
            rcases hy with hy | hy
            · omega
            · cases hy
theorem r_runs (hS : WfS S) (hR : RR (s.2 309) S) (hw : Wk S.1 w) {way : Nat} (hway : way ≤ 2) : ∃ s' : Mm, fX12_runs (M h s) (h + 308) (i64 (r6 w : Int)) (i32 (way : Int)) = some (i64 (r6 (runS S way w).2.2.1 : Int), M h s') ∧ RunP s s' (runS S way w) := by
  have hI0 : RunJ S.1 (mI (mL (mI s 308 (upd (s.1 308) 23 0)) 314 (vp_updL (s.2 314) 0 (i64 (r6 w : Int)))) 308 (upd (upd (s.1 308) 23 0) 24 (-1))) [] [] w := by
    refine ⟨by rw [mI_at, upd_ne (by decide), upd_at]; rfl, fun j hj => absurd hj (by simp), by rw [mI2, mL_at]; rfl, rfl, fun j hj => absurd hj (by simp), hw, fun v hv => by cases hv⟩
  have hF0 : Rf [16, 17, 19, 23, 24] [18] 314 316 s (mI (mL (mI s 308 (upd (s.1 308) 23 0)) 314 (vp_updL (s.2 314) 0 (i64 (r6 w : Int)))) 308 (upd (upd (s.1 308) 23 0) 24 (-1))) := by
    have := ((Rf.rf (s := s) (I := [16, 17, 19, 23, 24]) (L := [18]) (lo := 314) (hi := 316)).fI (j := 23) (v := 0) (by decide)).mL (i := 314) (f := vp_updL (s.2 314) 0 (i64 (r6 w : Int))) (by decide) (by decide) (by decide)
    have := this.fI (j := 24) (v := -1) (by decide)
    rw [mL1, mI_at] at this
    exact this
  obtain ⟨s', e1, e2⟩ := r_runLoop (h := h) hS hR hway 60 [] [] w _ rfl hF0 (by rw [mI_at, upd_at]; decide) hI0
  refine ⟨s', ?_, e2⟩
  have h0 : ∀ s0 : Mm, sL (M h s0) (h + 314) 0 (i64 (r6 w : Int)) = some (M h (mL s0 314 (vp_updL (s0.2 314) 0 (i64 (r6 w : Int))))) := by
    intro s0
    rw [q0, s_314 (by decide) (by decide)]; rfl
  obtain ⟨-, -, z3, -, -, z6, z7, z8⟩ := id e2
  unfold fX12_runs
  simp only [w_308_23, sb, g_308_20, h0, w_308_24, mL1, mI_at, mI2, e1, g_308_23, z3]
  rw [a_314 (by omega) (by omega), sb, tn0, z6]; rfl
end RF
