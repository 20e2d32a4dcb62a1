/-! CALLS that ask: areOne -/
section ON
variable {h : Nat} {s s' : Mm} {g g' : Gst} {N : Nat}
def dfA (X : Snap) (q j : Nat) : Int32 := i32 (((ouT X q).getD j (0, 0)).1 : Int)
def dfB (X : Snap) (q j : Nat) : Int32 := i32 (((X.2 q).2.getD ((ouT X q).getD j (0, 0)).2 (0, 0)).2 : Int)
def dfP (X : Snap) (q r j : Nat) : Bool := decide (¬ (dfA X q j = dfA X r j ∧ dfB X q j = dfB X r j))
def onA (X : Snap) (q r : Nat) : Int := if (X.2 q).1 = (X.2 r).1 ∧ (X.2 q).2.length = (X.2 r).2.length then (match (List.range (X.2 q).2.length).find? (dfP X q r) with
  | some _ => 0
  | none => 1) else 0
def onV (X : Snap) (a b : Int) : Nat × Int := if (0 ≤ a ∧ a < 6) ∧ 0 ≤ b ∧ b < 6 then (0, onA X a.toNat b.toNat) else (1, 0)
theorem onA_b {X : Snap} {q r : Nat} : onA X q r = 0 ∨ onA X q r = 1 := by
  unfold onA
  split
  · cases (List.range (X.2 q).2.length).find? (dfP X q r) with
    | none => exact Or.inr rfl
    | some _ => exact Or.inl rfl
  · exact Or.inl rfl
theorem onV_b {X : Snap} {a b : Int} : (onV X a b).1 ≤ 2 ∧ ((onV X a b).2 = 0 ∨ (onV X a b).2 = 1) := by
  unfold onV
  split
  · exact ⟨by simp only []; omega, onA_b⟩
  · simp
theorem CV.tw (hC : CV s N g) {q : Nat} (hq : q < 6) : aL (M h s) (h + 9) (i32 (q : Int)) = some (i64 (cw (g.1.2 q).1 : Int)) := by
  rw [a_9 (by omega) (by omega), tn0]; exact congrArg some (hC.pq hq).1
theorem kc_areOne (hI : Inv s N g) {a b : Int} (a1 : -2147483648 ≤ a) (a2 : a ≤ 2147483647) (b1 : -2147483648 ≤ b) (b2 : b ≤ 2147483647) : CA h N g g (fL_areOne (M h s) (h + 0) (i32 a) (i32 b) (h + 339)) (onV g.1 a b).1 (onV g.1 a b).2 := by
  have hV := hI.1.wf
  have hb := (onV_b (X := g.1) (a := a) (b := b)).2
  unfold fL_areOne
  unfold onV at hb ⊢
  by_cases c1 : 0 ≤ a ∧ a < 6
  · by_cases c2 : 0 ≤ b ∧ b < 6
    · rw [if_pos ⟨c1, c2⟩] at hb ⊢
      obtain ⟨q, rfl⟩ := nat_of c1.1
      obtain ⟨r, rfl⟩ := nat_of c2.1
      have hq : q < 6 := by omega
      have hr : r < 6 := by omega
      have wq := (hV.2 q hq).1.1.ww hV.1.1.2
      have wr := (hV.2 r hr).1.1.ww hV.1.1.2
      have lq := (hV.2 q hq).2
      have lr := (hV.2 r hr).2
      refine lZ0 hb ?_
      simp only [tn0]
      unfold fX11_areOne onA
      rw [c_needP a1 a2, sb, if_pos c1]
      simp only []
      rw [c_needP b1 b2, sb, if_pos c2]
      simp only []
      rw [g_0_3, sb, g_2_1, sb, hI.1.tw hq, sb, sb, g_2_1, sb, hI.1.tw hr, sb]
      by_cases c3 : (g.1.2 q).1 = (g.1.2 r).1
      · rw [if_pos (by rw [cmpW wq wr]; exact c3), sb, g_2_3, sb, c_lenAt hI.1 hq, sb, sb, g_2_3, sb, c_lenAt hI.1 hr, sb]
        by_cases c4 : (g.1.2 q).2.length = (g.1.2 r).2.length
        · rw [if_pos (by rw [c4]), if_pos ⟨c3, c4⟩]
          obtain ⟨s1, e1, f1, n1, -, -, zo1⟩ := c_draw (h := h) hz1 hV.1 hI.1.rs hq (hI.1.pq hq) (hV.2 q hq).1
          have k1 : CV s1 N g := hI.1.work f1 (by omega)
          obtain ⟨s2, e2, f2, n2, -, -, zo2⟩ := c_draw (h := h) hz2 hV.1 k1.rs hr (k1.pq hr) (hV.2 r hr).1
          have k2 : CV s2 N g := k1.work f2 (by omega)
          have n1' : s2.1 281 1 = i32 ((g.1.2 q).2.length : Int) := by rw [f2.I 281 (by decide)]; exact n1
          have oq := (drw hV hq).1
          have or' := (drw hV hr).1
          have p1 : ∀ j, j < (g.1.2 q).2.length → s2.1 292 j = dfA g.1 q j ∧ s2.1 293 j = dfB g.1 q j := fun j hj => by
            rw [f2.I 292 (by decide), f2.I 293 (by decide)]
            have := zo1 j (show j < (ouT g.1 q).length by omega)
            exact ⟨this.1, this.2.1⟩
          have p2 : ∀ j, j < (g.1.2 q).2.length → s2.1 305 j = dfA g.1 r j ∧ s2.1 306 j = dfB g.1 r j := fun j hj => by
            have := zo2 j (show j < (ouT g.1 r).length by omega)
            exact ⟨this.1, this.2.1⟩
          have hloop : iterP (fLX3_hasCanonOf_15 (M h s2) (h + 281) (h + 294)) 0 = some (match (List.range (g.1.2 q).2.length).find? (dfP g.1 q r) with | some k => Sum.inl () | none => Sum.inr ()) := by
            refine loop_find (dfP g.1 q r) (fun k => i32 (k : Int)) (Sum.inr ()) (fun k => Sum.inl ()) (g.1.2 q).2.length (fun k hk => ?_) ?_ rfl
            · unfold fLX3_hasCanonOf_15
              rw [g_281_1, sb, n1', if_neg (by rw [le32 (by omega) (by omega) (by omega) (by omega)]; omega), g_281_15, sb, a_292 (by omega) (by omega), sb, g_294_15, sb, a_305 (by omega) (by omega), sb, tn0, (p1 k hk).1, (p2 k hk).1]
              unfold dfP
              by_cases c5 : dfA g.1 q k = dfA g.1 r k
              · rw [if_pos c5, g_281_16, sb, a_293 (by omega) (by omega), sb, g_294_16, sb, a_306 (by omega) (by omega), sb, tn0, (p1 k hk).2, (p2 k hk).2]
                by_cases c6 : dfB g.1 q k = dfB g.1 r k
                · rw [if_pos c6, if_neg (by rw [decide_eq_true_eq]; exact fun h9 => h9 ⟨c5, c6⟩), xlet_eq, q1, a32]
                  rfl
                · rw [if_neg c6, if_pos (by rw [decide_eq_true_eq]; exact fun h9 => c6 h9.2)]
              · rw [if_neg c5, if_pos (by rw [decide_eq_true_eq]; exact fun h9 => c5 h9.1)]
            · unfold fLX3_hasCanonOf_15
              rw [g_281_1, sb, n1', if_pos (by rw [le32 (by omega) (by omega) (by omega) (by omega)]; omega)]
          refine ⟨s2, ?_, k2.mono (by omega), (hI.2.1.cls f1 (by omega)).cls f2 (by omega)⟩
          rw [g_0_16, sb, o_281, sb, e1, sb, g_0_17, sb, o_294, sb, e2, sb, g_0_16, sb, g_0_17, sb, o_281, sb]
          unfold fX3_hasCanonOf
          rw [g_281_1, sb, g_294_1, sb, n1', n2, c4, if_pos rfl, hloop, sb]
          rw [c4]
          cases (List.range (g.1.2 r).2.length).find? (dfP g.1 q r) with
          | none => rfl
          | some _ => rfl
        · rw [if_neg (by rw [eq32 (by omega) (by omega) (by omega) (by omega)]; omega), if_neg (fun h9 => c4 h9.2)]
          exact hI.self rfl
      · rw [if_neg (by rw [cmpW wq wr]; exact c3), if_neg (fun h9 => c3 h9.1)]
        exact hI.self rfl
    · rw [if_neg (fun h9 => c2 h9.2)]
      refine lZ1 (hI.self ?_)
      unfold fX11_areOne
      rw [c_needP a1 a2, sb, if_pos c1]
      simp only []
      rw [c_needP b1 b2, sb, if_neg c2]
  · rw [if_neg (fun h9 => c1 h9.1)]
    refine lZ1 (hI.self ?_)
    unfold fX11_areOne
    rw [c_needP a1 a2, sb, if_neg c1]
theorem cmpR {u v : List Nat} (hu : Ww u) (hv : Ww v) : (lg_cmp (i64 (r6 u : Int)) (i64 (r6 v : Int)) = 0) = (u = v) := by
  rw [cmp0, r6e hu hv]
theorem r_tw (hR : RV s g) {q : Nat} (hq : q < 6) : (fX12_place (i32 (q : Int)) 1).bind (fun w46 => aL (M h s) (h + 309) w46) = some (i64 (r6 (g.1.2 q).1 : Int)) := by
  rw [show (1 : Int32) = i32 ((1 : Nat) : Int) from q1, r_pl, sb, a_309 (by omega) (by omega), tn0]
  exact congrArg some (hR.pr hq).1
theorem kr_areOne (hR : RV s g) {a b : Int} (a1 : -2147483648 ≤ a) (a2 : a ≤ 2147483647) (b1 : -2147483648 ≤ b) (b2 : b ≤ 2147483647) : RA h s g (fX12_areOne (M h s) (h + 308) (i32 a) (i32 b)) (onV g.1 a b).1 (onV g.1 a b).2 := by
  have hV := hR.1.2.2
  have hR0 : RV (thr s 0) g := (rv_thr hR)
  have hno : fJX12_areOne_m_24 (M h (thr s 0)) (h + 308) (i32 a) (i32 b) (h + 308) = some (0, M h (thr s 1)) := by
    unfold fJX12_areOne_m_24 fJX12_areOne_m_25
    rw [o_308, sb, r_nayt, sb, if_pos rfl]
  unfold fX12_areOne onV
  rw [w_thr, sb, r_place6 a1 a2, sb]
  by_cases c1 : 0 ≤ a ∧ a < 6
  · rw [if_pos c1, if_neg n10, r_place6 b1 b2, sb]
    by_cases c2 : 0 ≤ b ∧ b < 6
    · rw [if_pos c2, if_neg n10, if_pos ⟨c1, c2⟩]
      obtain ⟨q, rfl⟩ := nat_of c1.1
      obtain ⟨r, rfl⟩ := nat_of c2.1
      have hq : q < 6 := by omega
      have hr : r < 6 := by omega
      have wq := (hV.2 q hq).1.1.ww hV.1.1.2
      have wr := (hV.2 r hr).1.1.ww hV.1.1.2
      have lq := (hV.2 q hq).2
      have lr := (hV.2 r hr).2
      have t1 : ∀ {p : Nat}, p < 6 → aL (M h (thr s 0)) (h + 309) (i32 ((36 + 43 * p + 1 : Nat) : Int)) = some (i64 (r6 (g.1.2 p).1 : Int)) := fun {p} hp => by
        rw [a_309 (by omega) (by omega), tn0]
        exact congrArg some (hR0.pr hp).1
      simp only [tn0]
      unfold fJX12_areOne_m_25 onA
      rw [o_308, sb, r_yes, sb, if_neg n10]
      simp only []
      rw [o_308, sb, r_stepsOf hq (hR0.pr hq), sb, g_308_1, sb, show (1 : Int32) = i32 ((1 : Nat) : Int) from q1, r_pl, sb, t1 hq, sb, sb, r_pl, sb, t1 hr, sb]
      by_cases c3 : (g.1.2 q).1 = (g.1.2 r).1
      · rw [if_pos (by rw [cmpR wq wr]; exact c3), sb, r_stepsOf hr (hR0.pr hr), sb]
        by_cases c4 : (g.1.2 q).2.length = (g.1.2 r).2.length
        · rw [if_pos (by rw [c4]), if_pos ⟨c3, c4⟩]
          have oq := (drw hV hq).1
          have or' := (drw hV hr).1
          obtain ⟨s1, e1, f0, -, yo1⟩ := r_draw (h := h) hV.1 hR0.row hq (hR0.pr hq) (hV.2 q hq).1
          have f1 := f0.rfx (lo := 325) (hi := 338) (by decide)
          have hR1 : RV s1 g := hR0.rf f1 (by omega) (by decide) (by decide) (by decide) (by decide) (by decide)
          have hl1 : ∃ y, iterP (fLX12_areOne_83 (h + 308) (i32 (q : Int)) (i32 (r : Int)) (i32 ((g.1.2 q).2.length : Int))) (0, M h s1) = some y ∧ ∃ s2, y = M h s2 ∧ Rf [] [] 337 338 s1 s2 ∧ ∀ j, j < (g.1.2 q).2.length → s2.1 337 j = dfA g.1 q j ∧ s2.1 338 j = dfB g.1 q j := by
            refine loop_ex (fun k x => ∃ s2, x = (i32 (k : Int), M h s2) ∧ Rf [] [] 337 338 s1 s2 ∧ ∀ j, j < k → s2.1 337 j = dfA g.1 q j ∧ s2.1 338 j = dfB g.1 q j) _ (g.1.2 q).2.length (fun k x hk hx => ?_) (fun x hx => ?_) ⟨s1, rfl, Rf.rf, fun j hj => absurd hj (by omega)⟩
            · obtain ⟨s2, rfl, f2, p2⟩ := hx
              have hko : k < (ouT g.1 q).length := by omega
              have hm : ((ouT g.1 q).getD k (0, 0)).2 < (g.1.2 q).2.length := (drw hV hq).2.2 _ (getD_mem hko)
              obtain ⟨y1, y2, -⟩ := yo1 k hko
              have z1 : s2.1 334 k = dfA g.1 q k := by rw [f2.I 334 (by decide) (by decide)]; exact y1
              have z2 : s2.1 335 k = i32 (((ouT g.1 q).getD k (0, 0)).2 : Int) := by rw [f2.I 335 (by decide) (by decide)]; exact y2
              obtain ⟨s3, es3⟩ : ∃ s3, s3 = mI s2 337 (upd (s2.1 337) k (dfA g.1 q k)) := ⟨_, rfl⟩
              have z3 : s3.1 335 k = i32 (((ouT g.1 q).getD k (0, 0)).2 : Int) := by rw [es3, mI_ne (by decide)]; exact z2
              have f3 : Rf [] [] 337 338 s1 s3 := by rw [es3]; exact f2.mI (by decide) (by decide) (by decide)
              have hR3 : RV s3 g := hR1.rf f3 (by omega) (by decide) (by decide) (by decide) (by decide) (by decide)
              refine ⟨(i32 ((k + 1 : Nat) : Int), M h (mI s3 338 (upd (s3.1 338) k (dfB g.1 q k)))), ?_, _, rfl, f3.mI (by decide) (by decide) (by decide), fun j hj => ?_⟩
              · unfold fLX12_areOne_83
                simp only []
                rw [if_neg (by rw [le32 (by omega) (by omega) (by omega) (by omega)]; omega), g_308_56, sb, g_308_52, sb, a_334 (by omega) (by omega), sb, tn0, z1, s_337 (by omega) (by omega), sb, tn0, ← es3, g_308_57, sb, g_308_53, sb, a_335 (by omega) (by omega), sb, tn0, z3, o_308, sb, r_ruleOf hq (hR3.pr hq) hm (stc_b hV hq hm), sb, s_338 (by omega) (by omega), sb, tn0, xlet_eq, q1, a32]
                rfl
              · rw [mI_at]
                by_cases c5 : j = k
                · subst c5
                  rw [upd_at, mI_ne (by decide), es3, mI_at, upd_at]
                  exact ⟨rfl, rfl⟩
                · rw [upd_ne c5, mI_ne (by decide), es3, mI_at, upd_ne c5, mI_ne (by decide)]
                  exact p2 j (by omega)
            · obtain ⟨s2, rfl, f2, p2⟩ := hx
              refine ⟨M h s2, ?_, s2, rfl, f2, p2⟩
              unfold fLX12_areOne_83
              simp only []
              rw [if_pos (by rw [le32 (by omega) (by omega) (by omega) (by omega)]; omega)]
          obtain ⟨_, e2, s2, rfl, f2, p2⟩ := hl1
          have hR2 : RV s2 g := hR1.rf f2 (by omega) (by decide) (by decide) (by decide) (by decide) (by decide)
          obtain ⟨s3, e3, f3', -, yo3⟩ := r_draw (h := h) hV.1 hR2.row hr (hR2.pr hr) (hV.2 r hr).1
          have f3 := f3'.rfx (lo := 325) (hi := 336) (by decide)
          have hR3 : RV s3 g := hR2.rf f3 (by omega) (by decide) (by decide) (by decide) (by decide) (by decide)
          have p3 : ∀ j, j < (g.1.2 q).2.length → s3.1 337 j = dfA g.1 q j ∧ s3.1 338 j = dfB g.1 q j := fun j hj => by
            rw [f3.I 337 (by decide) (by decide), f3.I 338 (by decide) (by decide)]; exact p2 j hj
          have hloop : iterP (fLX12_areOne_136 (M h s3) (h + 308) (i32 (r : Int)) (i32 ((g.1.2 q).2.length : Int))) 0 = some (match (List.range (g.1.2 q).2.length).find? (dfP g.1 q r) with | some k => Sum.inl () | none => Sum.inr ()) := by
            refine loop_find (dfP g.1 q r) (fun k => i32 (k : Int)) (Sum.inr ()) (fun k => Sum.inl ()) (g.1.2 q).2.length (fun k hk => ?_) ?_ rfl
            · have hko : k < (ouT g.1 r).length := by omega
              have hm : ((ouT g.1 r).getD k (0, 0)).2 < (g.1.2 r).2.length := (drw hV hr).2.2 _ (getD_mem hko)
              obtain ⟨y1, y2, -⟩ := yo3 k hko
              have y1 : s3.1 334 k = dfA g.1 r k := y1
              have y2 : s3.1 335 k = i32 (((ouT g.1 r).getD k (0, 0)).2 : Int) := y2
              have hB : fX12_ruleOf (M h s3) (h + 308) (i32 (r : Int)) (i32 (((ouT g.1 r).getD k (0, 0)).2 : Int)) = some (dfB g.1 r k) := r_ruleOf hr (hR3.pr hr) hm (stc_b hV hr hm)
              unfold fLX12_areOne_136
              rw [if_neg (by rw [le32 (by omega) (by omega) (by omega) (by omega)]; omega), g_308_56, sb, a_337 (by omega) (by omega), sb, g_308_52, sb, a_334 (by omega) (by omega), sb, tn0, (p3 k hk).1, y1]
              unfold dfP
              by_cases c5 : dfA g.1 q k = dfA g.1 r k
              · rw [if_pos c5, g_308_57, sb, a_338 (by omega) (by omega), sb, g_308_53, sb, a_335 (by omega) (by omega), sb, tn0, (p3 k hk).2, y2, o_308, sb, hB, sb]
                by_cases c6 : dfB g.1 q k = dfB g.1 r k
                · rw [if_pos c6, if_neg (by rw [decide_eq_true_eq]; exact fun h9 => h9 ⟨c5, c6⟩), xlet_eq, q1, a32]
                  rfl
                · rw [if_neg c6, if_pos (by rw [decide_eq_true_eq]; exact fun h9 => c6 h9.2)]
              · rw [if_neg c5, if_pos (by rw [decide_eq_true_eq]; exact fun h9 => c5 h9.1)]
            · unfold fLX12_areOne_136
              rw [if_pos (by rw [le32 (by omega) (by omega) (by omega) (by omega)]; omega)]
          have hf : Rf [44, 55] [] 325 338 (thr s 0) s3 := (f1.tr (f2.mono (I' := [44, 55]) (L' := []) (lo' := 325) (hi' := 338) (by decide) (by decide) (Or.inl (by decide)))).tr (f3.mono (I' := [44, 55]) (L' := []) (lo' := 325) (hi' := 338) (by decide) (by decide) (Or.inl (by decide)))
          rw [sb, e1, sb, e2, sb, o_308, sb, e3, sb, hloop, sb]
          cases (List.range (g.1.2 q).2.length).find? (dfP g.1 q r) with
          | none => exact ra_rf hR hf (by omega) (by decide) (by decide) (by decide) (by decide) (by decide) (by decide) rfl
          | some _ => exact ra_rf hR hf (by omega) (by decide) (by decide) (by decide) (by decide) (by decide) (by decide) rfl
        · rw [if_neg (by rw [eq32 (by omega) (by omega) (by omega) (by omega)]; omega), if_neg (fun h9 => c4 h9.2)]
          exact ra_ask hR rfl
      · rw [if_neg (by rw [cmpR wq wr]; exact c3), if_neg (fun h9 => c3 h9.1)]
        exact ra_ask hR rfl
    · rw [if_neg c2, if_pos rfl, if_neg (fun h9 => c2 h9.2), hno]
      exact ra_exc hR (by decide) rfl
  · rw [if_neg c1, if_pos rfl, if_neg (fun h9 => c1 h9.1), hno]
    exact ra_exc hR (by decide) rfl
theorem k30 {sx : Nat → Int32} {L : Nat} {i : Int32} {y : Nat → Int32} (hI : Inv s N g) (hN : N ≤ 900000) (hy : Sc5 sx L i y) : KOK h N (fK30 sx L (h + 0) (h + 308) (h + 339) i (M h s)) := by
  obtain ⟨y1, y2, y3, y4, y5⟩ := hy
  obtain ⟨a, ea, a1, a2⟩ := i32_ex (y 1)
  obtain ⟨b, eb, b1, b2⟩ := i32_ex (y 2)
  rw [ea] at y1
  rw [eb] at y2
  unfold fK30
  simp only [y1, y2, sb]
  obtain ⟨v1, v2⟩ := onV_b (X := g.1) (a := a) (b := b)
  exact kstdB (h := h) (oR := fun σ => fX12_areOne σ (h + 308) (i32 a) (i32 b)) hN hI.2.2.1 v1 v2 (kc_areOne hI a1 a2 b1 b2) (fun s1 _ r1 => kr_areOne r1 a1 a2 b1 b2)
end ON
