/-! CALLS that change: go -/
section GO
variable {h : Nat} {s s' : Mm} {g g' : Gst} {N : Nat}
def addsP (X : Snap) (q : Nat) (l : List (Nat × Nat)) : Snap := l.foldl (fun X x => addP X q x) X
theorem dvW_snoc {S : Sys} {t : List Nat} {c : List (Nat × Nat)} {x : Nat × Nat} : dvW S t (c ++ [x]) = aft S (dvW S t c) x := by
  unfold dvW; rw [List.foldl_append]; rfl
theorem dvOk_snoc {S : Sys} {t : List Nat} {c : List (Nat × Nat)} {x : Nat × Nat} (hD : dvOk S t c) (hx : okS S (dvW S t c) x) : dvOk S t (c ++ [x]) := by
  refine ⟨hD.1, fun k hk => ?_⟩
  rw [List.length_append] at hk
  have hk : k < c.length + 1 := hk
  by_cases c2 : k = c.length
  · subst c2
    rw [getD_app2, List.take_left]; exact hx
  · rw [getD_app1 (by omega), List.take_append_of_le_length (by omega)]; exact hD.2 k (by omega)
def RCh (S : Sys) (w0 : List Nat) (t : List (List Nat)) (c : List (Nat × Nat)) (w : List Nat) : Prop := t.length = c.length ∧ dvOk S w0 c ∧ (∀ j, j < c.length → t.getD j [] = dvW S w0 (c.take j)) ∧ w = dvW S w0 c
theorem runF_ch {S : Sys} {way : Nat} {w0 : List Nat} : ∀ (n : Nat) (t : List (List Nat)) (c : List (Nat × Nat)) (w : List Nat), RCh S w0 t c w → RCh S w0 (runF S way n t c w).1 (runF S way n t c w).2.1 (runF S way n t c w).2.2.1 := by
  intro n
  induction n with
  | zero => intro t c w hR; unfold runF; exact hR
  | succ n ih =>
    intro t c w hR
    unfold runF
    cases e : chs S w way with
    | none => exact hR
    | some x =>
      simp only []
      by_cases c1 : w ∈ t
      · rw [if_pos c1]; exact hR
      · rw [if_neg c1]
        obtain ⟨h1, h2, h3, h4⟩ := hR
        have hx : okS S (dvW S w0 c) x := by rw [← h4]; exact chs_ok e
        refine ih _ _ _ ⟨by rw [List.length_append, List.length_append, h1]; rfl, dvOk_snoc h2 hx, fun j hj => ?_, by rw [dvW_snoc, h4]⟩
        rw [List.length_append] at hj
        have hj : j < c.length + 1 := hj
        by_cases c2 : j = c.length
        · subst c2
          rw [← h1, getD_app2, h1, List.take_left]; exact h4
        · rw [getD_app1 (by omega), List.take_append_of_le_length (by omega)]; exact h3 j (by omega)
theorem runS_ch {S : Sys} {way : Nat} {w0 : List Nat} (hw : Wk S.1 w0) : RCh S w0 (runS S way w0).1 (runS S way w0).2.1 (runS S way w0).2.2.1 := by
  unfold runS
  exact runF_ch 60 [] [] w0 ⟨rfl, ⟨hw, fun k hk => absurd hk (by show ¬ k < 0; omega)⟩, fun j hj => absurd hj (by show ¬ j < 0; omega), rfl⟩
theorem adds_take {X : Snap} {q : Nat} {c : List (Nat × Nat)} {k : Nat} (hk : k < c.length) : addsP X q (c.take (k + 1)) = addP (addsP X q (c.take k)) q (c.getD k (0, 0)) := by
  unfold addsP
  rw [List.take_succ, List.foldl_append, List.getElem?_eq_getElem hk, List.getD_eq_getElem?_getD, List.getElem?_eq_getElem hk]
  rfl
theorem adds_ok {X : Snap} (hV : VX X) {q : Nat} (hq : q < 6) {c : List (Nat × Nat)} (hD : dvOk X.1 (nowP X q) c) (hl : (X.2 q).2.length + c.length ≤ 40) : ∀ k, k ≤ c.length → VX (addsP X q (c.take k)) ∧ (addsP X q (c.take k)).1 = X.1 ∧ nowP (addsP X q (c.take k)) q = dvW X.1 (nowP X q) (c.take k) ∧ ((addsP X q (c.take k)).2 q).2.length = (X.2 q).2.length + k := by
  intro k
  induction k with
  | zero => intro _; exact ⟨hV, rfl, rfl, rfl⟩
  | succ k ih =>
    intro hk
    obtain ⟨i1, i2, i3, i4⟩ := ih (by omega)
    have hx : okS (addsP X q (c.take k)).1 (nowP (addsP X q (c.take k)) q) (c.getD k (0, 0)) := by
      rw [i2, i3]; exact hD.2 k (by omega)
    rw [adds_take (by omega)]
    refine ⟨addP_VX i1 hq hx (by omega), i2, ?_, ?_⟩
    · rw [nowP_add, i2, i3, dvW_succ (by omega)]
    · rw [addP_q]
      show (_ ++ [_]).length = _
      rw [List.length_append, i4]; rfl
def goR (g : Gst) (a w : Int) : Gst × Nat × Int := if 0 ≤ a ∧ a < 6 then (if 0 ≤ w ∧ w ≤ 2 then (if (g.1.2 a.toNat).2.length + (runS g.1.1 w.toNat (nowP g.1 a.toNat)).2.1.length ≤ 40 then ((addsP g.1 a.toNat (runS g.1.1 w.toNat (nowP g.1 a.toNat)).2.1, psh g.2.1 g.1, g.2.2), 0, ((runS g.1.1 w.toNat (nowP g.1 a.toNat)).2.1.length : Int)) else (g, 0, -1)) else (g, 2, 0)) else (g, 1, 0)
theorem goR_b {a w : Int} : (goR g a w).2.1 ≤ 2 ∧ -2147483648 ≤ (goR g a w).2.2 ∧ (goR g a w).2.2 ≤ 2147483647 := by
  unfold goR
  split
  · split
    · split
      · simp only []; omega
      · simp only []; omega
    · simp only []; omega
  · simp only []; omega
theorem goR_ok (hk : okG g) {a w : Int} : okG (goR g a w).1 := by
  unfold goR
  split
  · split
    · split
      · exact hk
      · exact hk
    · exact hk
  · exact hk
theorem kc_go (hI : Inv s N g) {a w : Int} (a1 : -2147483648 ≤ a) (a2 : a ≤ 2147483647) (b1 : -2147483648 ≤ w) (b2 : w ≤ 2147483647) : CA h N g (goR g a w).1 (fL_go (M h s) (h + 0) (i32 a) (i32 w) (h + 339)) (goR g a w).2.1 (goR g a w).2.2 := by
  have hV := hI.1.wf
  have hb := (goR_b (g := g) (a := a) (w := w)).2
  unfold fL_go
  unfold goR at hb ⊢
  by_cases c1 : 0 ≤ a ∧ a < 6
  · rw [if_pos c1] at hb ⊢
    by_cases c2 : 0 ≤ w ∧ w ≤ 2
    · rw [if_pos c2] at hb ⊢
      obtain ⟨q, rfl⟩ := nat_of c1.1
      obtain ⟨y, rfl⟩ := nat_of c2.1
      have hq : q < 6 := by omega
      have hk := nowP_Wk hV hq
      have h40 := (hV.2 q hq).2
      simp only [tn0] at hb ⊢
      obtain ⟨s1, e1, e2, e3, e4⟩ := c_runFrom (h := h) hV.1 hI.1.rs hk (show y ≤ 2 by omega)
      obtain ⟨C, eC⟩ : ∃ C, C = (runS g.1.1 y (nowP g.1 q)).2.1 := ⟨_, rfl⟩
      have hch := (runS_ch (S := g.1.1) (way := y) hk).2.1
      obtain ⟨f1, n1, -, p1⟩ := e2
      rw [← eC] at hb hch n1 p1 e4 ⊢
      have k1 : CV s1 N g := hI.1.work f1 (by omega)
      have hR1 : RV s1 g := hI.2.1.cls f1 (by omega)
      by_cases c3 : (g.1.2 q).2.length + C.length ≤ 40
      · rw [if_pos c3] at hb ⊢
        obtain ⟨s2, e5, f2, k2⟩ := c_keepV (h := h) k1
        have hao := adds_ok hV hq hch c3
        have hloop : ∃ o, iterP (fLX11_go_63 (h + 0) (i32 (q : Int))) (0, M h s2) = some o ∧ ∃ s3, o = M h s3 ∧ Fr 10 12 s2 s3 ∧ DX s3 2 (addsP g.1 q C) := by
          refine loop_ex (fun k x => ∃ s3, x = (i32 (k : Int), M h s3) ∧ Fr 10 12 s2 s3 ∧ DX s3 2 (addsP g.1 q (C.take k))) _ C.length (fun k x hk9 hx => ?_) (fun x hx => ?_) ⟨s2, rfl, Fr.rf, k2.1⟩
          · obtain ⟨s3, rfl, f3, d3⟩ := hx
            obtain ⟨i1, i2, i3, i4⟩ := hao k (by omega)
            have hx : okS (addsP g.1 q (C.take k)).1 (nowP (addsP g.1 q (C.take k)) q) (C.getD k (0, 0)) := by
              rw [i2, i3]; exact hch.2 k hk9
            obtain ⟨s4, e6, f4, d4⟩ := c_addStep (h := h) d3 hq hx (by omega)
            refine ⟨(i32 ((k + 1 : Nat) : Int), M h s4), ?_, s4, rfl, f3.tr f4, by rw [adds_take hk9]; exact d4⟩
            have g3 : s3.1 253 3 = i32 (C.length : Int) := by rw [f3.I 253 (by omega), f2.I 253 (by omega)]; exact n1
            have g4 : s3.1 255 k = i32 (cod (C.getD k (0, 0)) : Int) := by rw [f3.I 255 (by omega), f2.I 255 (by omega)]; exact p1 k hk9
            unfold fLX11_go_63
            simp only []
            rw [g_0_8, sb, g_253_3, sb, g3, if_neg (by rw [le32 (by omega) (by omega) (by omega) (by omega)]; omega), g_0_3, sb, sb, g_253_2, sb, a_255 (by omega) (by omega), sb, tn0, g4, o_2, sb, e6, sb, xlet_eq, q1, a32]
            rfl
          · obtain ⟨s3, rfl, f3, d3⟩ := hx
            rw [List.take_length] at d3
            have g3 : s3.1 253 3 = i32 (C.length : Int) := by rw [f3.I 253 (by omega), f2.I 253 (by omega)]; exact n1
            refine ⟨M h s3, ?_, s3, rfl, f3, d3⟩
            unfold fLX11_go_63
            simp only []
            rw [g_0_8, sb, g_253_3, sb, g3, if_pos (by rw [le32 (by omega) (by omega) (by omega) (by omega)]; omega)]
        obtain ⟨_, e6, s3, rfl, f3, d3⟩ := hloop
        have hS1 := (hao C.length (Nat.le_refl _)).2.1
        rw [List.take_length] at hS1
        have k3 : CV s3 N (addsP g.1 q C, psh g.2.1 g.1, g.2.2) := k2.put (f3.mono (by decide) (by decide)) d3 hS1
        have g3 : s3.1 253 3 = i32 (C.length : Int) := by rw [f3.I 253 (by omega), f2.I 253 (by omega)]; exact n1
        refine lB0 hb ⟨s3, ?_, k3.mono (by omega), (hR1.cls f2 (by omega)).cls f3 (by omega)⟩
        unfold fX11_go
        rw [c_needP a1 a2, sb, if_pos c1]
        simp only []
        rw [c_needY b1 b2, sb, if_pos c2]
        simp only []
        rw [g_0_8, sb, g_0_3, sb, g_2_2, sb, c_nowAt hI.1 hq, sb, o_253, sb, e1, sb]
        simp only []
        rw [g_0_3, sb, g_2_3, sb, c_lenAt k1 hq, sb, g_0_8, sb, g_253_3, sb, n1, a32, if_pos (by rw [q40]; rw [le32 (by omega) (by omega) (by omega) (by omega)]; omega), g_0_6, sb, sb, o_24, sb, e5, sb, e6, sb, g_0_8, sb, g_253_3, sb, g3]
      · rw [if_neg c3] at hb ⊢
        refine lB0 hb ⟨s1, ?_, k1.mono (by omega), hR1⟩
        unfold fX11_go
        rw [c_needP a1 a2, sb, if_pos c1]
        simp only []
        rw [c_needY b1 b2, sb, if_pos c2]
        simp only []
        rw [g_0_8, sb, g_0_3, sb, g_2_2, sb, c_nowAt hI.1 hq, sb, o_253, sb, e1, sb]
        simp only []
        rw [g_0_3, sb, g_2_3, sb, c_lenAt k1 hq, sb, g_0_8, sb, g_253_3, sb, n1, a32, if_neg (by rw [q40]; rw [le32 (by omega) (by omega) (by omega) (by omega)]; omega)]
        rfl
    · rw [if_neg c2]
      refine lB2 (hI.self ?_)
      unfold fX11_go
      rw [c_needP a1 a2, sb, if_pos c1]
      simp only []
      rw [c_needY b1 b2, sb, if_neg c2]
  · rw [if_neg c1]
    refine lB1 (hI.self ?_)
    unfold fX11_go
    rw [c_needP a1 a2, sb, if_neg c1]
theorem kr_go (hR : RV s g) {a w : Int} (a1 : -2147483648 ≤ a) (a2 : a ≤ 2147483647) (b1 : -2147483648 ≤ w) (b2 : w ≤ 2147483647) : RA h s (goR g a w).1 (fX12_go (M h s) (h + 308) (i32 a) (i32 w)) (goR g a w).2.1 (goR g a w).2.2 := by
  have hV := hR.1.2.2
  have hR0 : RV (thr s 0) g := (rv_thr hR)
  unfold fX12_go goR
  rw [w_thr, sb, r_place6 a1 a2, sb, o_308, sb]
  by_cases c1 : 0 ≤ a ∧ a < 6
  · rw [if_pos c1, if_pos c1, r_yes, sb, if_neg n10, r_isWay b1 b2, sb, o_308, sb]
    by_cases c2 : 0 ≤ w ∧ w ≤ 2
    · rw [if_pos c2, if_pos c2, r_yes, sb, if_neg n10]
      obtain ⟨q, rfl⟩ := nat_of c1.1
      obtain ⟨y, rfl⟩ := nat_of c2.1
      have hq : q < 6 := by omega
      have hk := nowP_Wk hV hq
      have h40 := (hV.2 q hq).2
      simp only [tn0]
      obtain ⟨s1, e1, e2⟩ := r_runs (h := h) hV.1 hR0.row hk (show y ≤ 2 by omega)
      obtain ⟨-, hch, hw1, hw2⟩ := runS_ch (S := g.1.1) (way := y) hk
      obtain ⟨f1, -, n1, p1, p2, -, -, l60⟩ := e2
      obtain ⟨C, eC⟩ : ∃ C, C = (runS g.1.1 y (nowP g.1 q)).2.1 := ⟨_, rfl⟩
      rw [← eC] at hch hw1 hw2 n1 p1 p2 l60 ⊢
      have hR1 : RV s1 g := hR0.rf f1 (by omega) (by decide) (by decide) (by decide) (by decide) (by decide)
      rw [o_308, sb, r_wordAt hR0 hq, sb, sb, e1, sb]
      simp only []
      rw [o_308, sb, r_stepsOf hq (hR1.pr hq), sb, g_308_23, sb, n1, a32]
      by_cases c3 : (g.1.2 q).2.length + C.length ≤ 40
      · rw [if_pos (show i32 (((g.1.2 q).2.length : Int) + (C.length : Int)) ≤ 40 by rw [q40]; rw [le32 (by omega) (by omega) (by omega) (by omega)]; omega), if_pos c3]
        obtain ⟨s2, e5, f2, r2, z2, z3, z4⟩ := r_keepV (h := h) hR1
        have hao := adds_ok hV hq hch c3
        have g23 : s2.1 308 23 = i32 (C.length : Int) := by rw [z2 23 (by decide)]; exact n1
        have hloop : ∃ o, iterP (fLX12_go_66 (h + 308) (i32 (q : Int)) (i64 (r6 (runS g.1.1 y (nowP g.1 q)).2.2.1 : Int))) (0, M h s2) = some o ∧ ∃ f, o = M h (mL s2 309 f) ∧ RX f (addsP g.1 q C) := by
          refine loop_ex (fun k x => ∃ f, x = (i32 (k : Int), M h (mL s2 309 f)) ∧ RX f (addsP g.1 q (C.take k))) _ C.length (fun k x hk9 hx => ?_) (fun x hx => ?_) ⟨s2.2 309, ?_, r2.1⟩
          · obtain ⟨f, rfl, d3⟩ := hx
            obtain ⟨i1, i2, i3, i4⟩ := hao k (by omega)
            have hx : okS (addsP g.1 q (C.take k)).1 (nowP (addsP g.1 q (C.take k)) q) (C.getD k (0, 0)) := by
              rw [i2, i3]; exact hch.2 k hk9
            have d3' : RX ((mL s2 309 f).2 309) (addsP g.1 q (C.take k)) := by rw [mL_at]; exact d3
            obtain ⟨f', e6, d4⟩ := r_makes (h := h) d3' hq hx (by omega)
            rw [mL_mL] at e6
            have ew : aft (addsP g.1 q (C.take k)).1 (nowP (addsP g.1 q (C.take k)) q) (C.getD k (0, 0)) = dvW g.1.1 (nowP g.1 q) (C.take (k + 1)) := by
              rw [i2, i3, dvW_succ hk9]
            rw [ew] at e6
            refine ⟨(i32 ((k + 1 : Nat) : Int), M h (mL s2 309 f')), ?_, f', rfl, by rw [adds_take hk9]; exact d4⟩
            have g5 : s2.1 315 k = i32 ((C.getD k (0, 0)).1 : Int) := by rw [z3 315 (by decide)]; exact (p1 k hk9).1
            have g6 : s2.1 316 k = i32 ((C.getD k (0, 0)).2 : Int) := by rw [z3 316 (by decide)]; exact (p1 k hk9).2
            unfold fLX12_go_66
            simp only []
            rw [g_308_23, sb, show (mL s2 309 f).1 308 23 = _ from g23, if_neg (by rw [le32 (by omega) (by omega) (by omega) (by omega)]; omega), g_308_21, sb, a_315 (by omega) (by omega), sb, tn0, show (mL s2 309 f).1 315 k = _ from g5, g_308_22, sb, a_316 (by omega) (by omega), sb, tn0, show (mL s2 309 f).1 316 k = _ from g6, sb, q1, a32]
            by_cases c4 : k + 1 = C.length
            · have ef : dvW g.1.1 (nowP g.1 q) (C.take (k + 1)) = (runS g.1.1 y (nowP g.1 q)).2.2.1 := by rw [c4, List.take_length]; exact hw2.symm
              rw [ef] at e6
              rw [if_pos (by rw [eq32 (by omega) (by omega) (by omega) (by omega)]; omega), o_308, sb, e6, sb, xlet_eq]
              rfl
            · have hk2 : k + 1 < C.length := by omega
              have g7 : s2.2 314 (k + 1) = i64 (r6 (dvW g.1.1 (nowP g.1 q) (C.take (k + 1))) : Int) := by
                rw [z4 314 (by decide), p2 (k + 1) hk2, hw1 (k + 1) hk2]
              rw [if_neg (by rw [eq32 (by omega) (by omega) (by omega) (by omega)]; omega), g_308_20, sb, a_314 (by omega) (by omega), sb, show ((k : Int) + 1).toNat = k + 1 by omega, mL_ne (by decide), g7, o_308, sb, e6, sb, xlet_eq]
              rfl
          · obtain ⟨f, rfl, d3⟩ := hx
            rw [List.take_length] at d3
            refine ⟨M h (mL s2 309 f), ?_, f, rfl, d3⟩
            unfold fLX12_go_66
            simp only []
            rw [g_308_23, sb, show (mL s2 309 f).1 308 23 = _ from g23, if_pos (by rw [le32 (by omega) (by omega) (by omega) (by omega)]; omega)]
          · refine Prod.ext rfl ?_
            show M h s2 = M h (mL s2 309 (s2.2 309))
            have : mL s2 309 (s2.2 309) = s2 := by
              unfold mL
              refine Prod.ext rfl (funext (fun c => ?_))
              show (if c = 309 then s2.2 309 else s2.2 c) = s2.2 c
              split
              · rename_i e; rw [e]
              · rfl
            rw [this]
        obtain ⟨_, e6, f, rfl, hX⟩ := hloop
        have r3 : RV (mL s2 309 f) (addsP g.1 q C, psh g.2.1 g.1, g.2.2) := r2.put hX
        rw [sb, e5, sb, e6, sb, g_308_23, sb, show (mL s2 309 f).1 308 23 = _ from g23]
        refine ra_ans (((thr_fr (k := 0)).tr (f1.to (by omega))).tr (f2.tr put_fr)) r3 ?_ rfl
        show s2.1 308 0 = 0
        rw [z2 0 (by decide)]
        exact f1.t0 (by decide)
      · rw [if_neg (show ¬ i32 (((g.1.2 q).2.length : Int) + (C.length : Int)) ≤ 40 by rw [q40]; rw [le32 (by omega) (by omega) (by omega) (by omega)]; omega), if_neg c3]
        exact ra_rf hR f1 (by omega) (by decide) (by decide) (by decide) (by decide) (by decide) (by decide) rfl
    · rw [if_neg c2, if_neg c2, r_nayt2, sb, if_pos rfl]
      exact ra_exc hR (show (2 : Nat) ≠ 0 by decide) rfl
  · rw [if_neg c1, if_neg c1, r_nayt, sb, if_pos rfl]
    exact ra_exc hR (show (1 : Nat) ≠ 0 by decide) rfl
theorem k12 {sx : Nat → Int32} {L : Nat} {i : Int32} {y : Nat → Int32} (hI : Inv s N g) (hN : N ≤ 900000) (hy : Sc5 sx L i y) : KOK h N (fK12 sx L (h + 0) (h + 308) (h + 339) i (M h s)) := by
  obtain ⟨y1, y2, y3, y4, y5⟩ := hy
  obtain ⟨a, ea, a1, a2⟩ := i32_ex (y 1)
  obtain ⟨b, eb, b1, b2⟩ := i32_ex (y 2)
  rw [ea] at y1
  rw [eb] at y2
  unfold fK12
  simp only [y1, y2, sb]
  have hRb : ∀ {g : Gst}, (goR g a b).2.1 ≤ 2 ∧ -2147483648 ≤ (goR g a b).2.2 ∧ (goR g a b).2.2 ≤ 2147483647 := goR_b
  obtain ⟨v1, v2⟩ := hRb (g := g)
  exact kstd (h := h) (oR := fun σ => fX12_go σ (h + 308) (i32 a) (i32 b)) hN (goR_ok hI.2.2.1) v1 v2 (kc_go hI a1 a2 b1 b2) (fun s1 _ r1 => kr_go r1 a1 a2 b1 b2)
end GO
