/-! CALLS that ask: word, run, came, compare, far -/
section WD
variable {h : Nat} {s s' : Mm} {g : Gst} {N : Nat}
theorem RFull.b {b : Bool} {S : Sys} {r : Nat} {w : List Nat} (hF : RFull b S s r w) : (rch b S w).length ≤ 200 ∧ nmS S (rch b S w) ≤ 200 ∧ (-1 ≤ enS S (rch b S w) ∧ enS S (rch b S w) ≤ 200) ∧ (-1 ≤ lpS b S w (rch b S w) ∧ lpS b S w (rch b S w) ≤ 201) ∧ 0 < (rch b S w).length ∧ (lnk (rch b S w) 0).1 = w ∧ (∀ j, j < (rch b S w).length → (lnk (rch b S w) j).2 ≤ j) ∧ (∀ y ∈ rch b S w, Wk S.1 y.1) := by
  obtain ⟨⟨sl, r1, r2, r3, r4, r5, r6, r7, r8, r9⟩, -, -, -, h5, h6⟩ := hF
  have hX : ∀ y ∈ rch b S w, y.2 ≤ 200 := by
    intro y hy
    obtain ⟨j, hj, e⟩ := List.getElem_of_mem hy
    have := r9 j hj
    unfold lnk at this
    rw [List.getD_eq_getElem?_getD, List.getElem?_eq_getElem hj, e] at this
    have : y.2 ≤ j := this
    omega
  have := nmS_le (S := S) (X := rch b S w)
  have e1 := enS_b (S := S) hX
  have e2 := lpS_b (b := b) (S := S) (v := w) hX
  exact ⟨r4, by omega, by omega, by omega, h5, h6, r9, r5⟩
theorem rch_b (hC : CV s N g) (hN : N ≤ 1000100) (b : Bool) {w : List Nat} (hw : Wk g.1.1.1 w) : (rch b g.1.1 w).length ≤ 200 ∧ nmS g.1.1 (rch b g.1.1 w) ≤ 200 ∧ (-1 ≤ enS g.1.1 (rch b g.1.1 w) ∧ enS g.1.1 (rch b g.1.1 w) ≤ 200) ∧ (-1 ≤ lpS b g.1.1 w (rch b g.1.1 w) ∧ lpS b g.1.1 w (rch b g.1.1 w) ≤ 201) ∧ 0 < (rch b g.1.1 w).length ∧ (lnk (rch b g.1.1 w) 0).1 = w ∧ (∀ j, j < (rch b g.1.1 w).length → (lnk (rch b g.1.1 w) j).2 ≤ j) ∧ (∀ y ∈ rch b g.1.1 w, Wk g.1.1.1 y.1) := by
  cases b with
  | false =>
    obtain ⟨s1, -, -, h1, -⟩ := c_reach (h := 0) (r := 260) (b := false) hC hN (Or.inl ⟨rfl, rfl⟩) hw
    exact h1.b
  | true =>
    obtain ⟨s1, -, -, h1, -⟩ := c_reach (h := 0) (r := 268) (b := true) hC hN (Or.inr (Or.inr ⟨rfl, rfl⟩)) hw
    exact h1.b
theorem CV.pq (hC : CV s N g) {q : Nat} (hq : q < 6) : Pq s q (g.1.2 q).1 (g.1.2 q).2 := ⟨(hC.1.2.1 q hq).1, (hC.1.2.1 q hq).2.2.1, (hC.1.2.1 q hq).2.2.2, (hC.wf.2 q hq).2⟩
theorem zrd_40 {X : Snap} (hV : VX X) {q : Nat} (hq : q < 6) : zrd (zd X.1 (X.2 q).1 (X.2 q).2).2.2 ≤ 41 ∧ (zd X.1 (X.2 q).1 (X.2 q).2).2.2.length = (X.2 q).2.length ∧ ∀ k, k < (zd X.1 (X.2 q).1 (X.2 q).2).2.2.length → zR (zd X.1 (X.2 q).1 (X.2 q).2).2.2 k ≤ 41 := by
  obtain ⟨d1, d2⟩ := hV.2 q hq
  obtain ⟨z1, z2, z3⟩ := zd_ok hV.1 d1 (X.2 q).2.length (Nat.le_refl _)
  rw [List.take_length] at z1 z2 z3
  have hk : ∀ k, k < (zd X.1 (X.2 q).1 (X.2 q).2).2.2.length → zR (zd X.1 (X.2 q).1 (X.2 q).2).2.2 k ≤ 41 := by
    intro k hk
    have := (z1.2.2.2.2.2.2.1 k hk).2.2.2.1
    omega
  exact ⟨zrd_b hk, z3, hk⟩
/-! word -/
def wdA (X : Snap) (q : Nat) (b : Int) : Int := if b = 0 then ((nowP X q).length : Int) else if b = 1 then (wg X.1 (nowP X q) : Int) else if b = 2 then ((stps X.1 (nowP X q)).length : Int) else if b = 3 then (if stps X.1 (nowP X q) = [] then 1 else 0) else if b = 4 then ((rch false X.1 (nowP X q)).length : Int) else if b = 5 then (nmS X.1 (rch false X.1 (nowP X q)) : Int) else if b = 6 then enS X.1 (rch false X.1 (nowP X q)) else if b = 7 then lpS false X.1 (nowP X q) (rch false X.1 (nowP X q)) else if b = 8 then ((X.2 q).2.length : Int) else (zrd (zd X.1 (X.2 q).1 (X.2 q).2).2.2 : Int)
def wdV (X : Snap) (a b : Int) : Nat × Int := if (0 ≤ a ∧ a < 6) ∧ 0 ≤ b ∧ b ≤ 9 then (0, wdA X a.toNat b) else (1, 0)
theorem wdV_b (hI : Inv s N g) {a b : Int} : (wdV g.1 a b).1 ≤ 2 ∧ -2147483648 ≤ (wdV g.1 a b).2 ∧ (wdV g.1 a b).2 ≤ 2147483647 := by
  unfold wdV
  have hV := hI.1.wf
  have hN := hI.2.2.2
  split
  · rename_i c
    have hq : a.toNat < 6 := by omega
    have hk := nowP_Wk hV hq
    have hW := hk.ww hV.1.1.2
    have e1 := hW.1
    have e2 := wg_le hV.1 hW
    have e3 := stps_len hV.1 hW
    obtain ⟨e4, e5, e6, e7, -⟩ := rch_b hI.1 (by omega) false hk
    have e8 := (hV.2 _ hq).2
    have e9 := (zrd_40 hV hq).1
    simp only []
    unfold wdA
    repeat' split
    all_goals omega
  · simp only []
    omega
theorem kc_word (hI : Inv s N g) {a b : Int} (a1 : -2147483648 ≤ a) (a2 : a ≤ 2147483647) (b1 : -2147483648 ≤ b) (b2 : b ≤ 2147483647) : CA h N g g (fL_word (M h s) (h + 0) (i32 a) (i32 b) (h + 339)) (wdV g.1 a b).1 (wdV g.1 a b).2 := by
  have hV := hI.1.wf
  have hN := hI.2.2.2
  have hb := (wdV_b hI (a := a) (b := b)).2
  unfold fL_word
  unfold wdV at hb ⊢
  by_cases c1 : 0 ≤ a ∧ a < 6
  · by_cases c2 : 0 ≤ b ∧ b ≤ 9
    · rw [if_pos ⟨c1, c2⟩] at hb ⊢
      obtain ⟨q, rfl⟩ := nat_of c1.1
      have hq : q < 6 := by omega
      have hk := nowP_Wk hV hq
      have hW := hk.ww hV.1.1.2
      refine lN0 hb ?_
      simp only [tn0]
      unfold fX11_word
      rw [c_needP a1 a2, sb, if_pos c1]
      simp only []
      rw [show (9 : Int32) = i32 9 from by decide, c_needW b1 b2 (by omega) (by omega), sb, if_pos c2]
      simp only []
      rw [g_0_3, sb, g_2_2, sb, c_nowAt hI.1 hq, sb]
      unfold wdA
      rcases (show b = 0 ∨ b = 1 ∨ b = 2 ∨ b = 3 ∨ (4 ≤ b ∧ b ≤ 7) ∨ b = 8 ∨ b = 9 by omega) with rfl | rfl | rfl | rfl | c3 | rfl | rfl
      · rw [if_pos (by decide)]
        unfold fJX11_word_m_39
        rw [if_neg (by decide), if_pos (by decide), c_len hW, sb]
        exact hI.self rfl
      · rw [if_pos (by decide)]
        unfold fJX11_word_m_39
        rw [if_neg (by decide), if_neg (by decide), if_pos (by decide), g_0_3, sb, g_2_0, sb, g_3_4, sb, c_weigh hI.1.rs hW, sb]
        exact hI.self rfl
      · rw [if_pos (by decide)]
        unfold fJX11_word_m_39
        rw [if_neg (by decide), if_neg (by decide), if_neg (by decide), if_pos (by decide), g_0_3, sb, g_2_0, sb, o_3, sb, c_stepsOf hV.1 hI.1.rs hW, sb]
        exact hI.self rfl
      · rw [if_pos (by decide)]
        unfold fJX11_word_m_39
        rw [if_neg (by decide), if_neg (by decide), if_neg (by decide), if_neg (by decide), if_pos (by decide), g_0_3, sb, g_2_0, sb, o_3, sb, show (0 : Int32) = i32 ((0 : Nat) : Int) from rfl, c_stepCode hV.1 hI.1.rs hW (by omega), sb]
        refine hI.self ?_
        by_cases c4 : stps g.1.1 (nowP g.1 q) = []
        · rw [if_pos (by rw [c4]; rfl)]
          show some (Sum.inl (1 : Int32), M h s) = some (Sum.inl (i32 (if stps g.1.1 (nowP g.1 q) = [] then 1 else 0)), M h s)
          rw [if_pos c4]; rfl
        · show _ = some (Sum.inl (i32 (if stps g.1.1 (nowP g.1 q) = [] then 1 else 0)), M h s)
          rw [if_neg c4]
          cases c5 : (stps g.1.1 (nowP g.1 q))[0]? with
          | none =>
            exfalso
            refine c4 (List.eq_nil_of_length_eq_zero ?_)
            have := List.getElem?_eq_none_iff.1 c5
            omega
          | some x =>
            obtain ⟨x0, x1, x2⟩ := stp_b hV hq c5
            have hc : cod x ≤ 255 := by unfold cod; omega
            have hne : ¬ i32 (codO (some x)) = -1 := by
              show ¬ i32 (cod x : Int) = -1
              rw [show (-1 : Int32) = i32 (-1) from by decide]; rw [eq32 (by omega) (by omega) (by omega) (by omega)]; omega
            rw [if_neg hne]; rfl
      · obtain ⟨s1, e1, f1, r1, k1⟩ := c_reach (h := h) (r := 260) (b := false) hI.1 (by omega) (Or.inl ⟨rfl, rfl⟩) hk
        obtain ⟨⟨sl, r2⟩, r3, r4, r5, -⟩ := id r1
        refine ⟨s1, ?_, k1.mono (by omega), hI.2.1.cls f1 (by omega)⟩
        rw [if_neg (by rw [show (4 : Int32) = i32 4 from by decide]; rw [lt32 (by omega) (by omega) (by omega) (by omega)]; omega), if_neg (by rw [show (7 : Int32) = i32 7 from by decide]; rw [lt32 (by omega) (by omega) (by omega) (by omega)]; omega), g_0_10, sb, o_260, sb, e1, sb]
        unfold fJX11_word_m_39
        rcases (show b = 4 ∨ b = 5 ∨ b = 6 ∨ b = 7 by omega) with rfl | rfl | rfl | rfl
        · rw [if_neg (by decide), if_neg (by decide), if_neg (by decide), if_neg (by decide), if_neg (by decide), if_pos (by decide), g_0_10, sb, g_260_4, sb, r2.1]
          rfl
        · rw [if_neg (by decide), if_neg (by decide), if_neg (by decide), if_neg (by decide), if_neg (by decide), if_neg (by decide), if_pos (by decide), g_0_10, sb, g_260_5, sb, r3]
          rfl
        · rw [if_neg (by decide), if_neg (by decide), if_neg (by decide), if_neg (by decide), if_neg (by decide), if_neg (by decide), if_neg (by decide), if_pos (by decide), g_0_10, sb, g_260_6, sb, r4]
          rfl
        · rw [if_neg (by decide), if_neg (by decide), if_neg (by decide), if_neg (by decide), if_neg (by decide), if_neg (by decide), if_neg (by decide), if_neg (by decide), if_pos (by decide), g_0_10, sb, g_260_7, sb, r5]
          rfl
      · rw [if_neg (by decide), if_pos (by decide)]
        unfold fJX11_word_m_39
        rw [if_neg (by decide), if_neg (by decide), if_neg (by decide), if_neg (by decide), if_neg (by decide), if_neg (by decide), if_neg (by decide), if_neg (by decide), if_neg (by decide), if_pos (by decide), g_0_3, sb, g_2_3, sb, a_11 (by omega) (by omega), sb, tn0, (hI.1.pq hq).2.1]
        exact hI.self rfl
      · rw [if_neg (by decide), if_pos (by decide)]
        unfold fJX11_word_m_39
        obtain ⟨s1, e1, f1, -, z2, -⟩ := c_draw (h := h) hz1 hV.1 hI.1.rs hq (hI.1.pq hq) (hV.2 q hq).1
        refine ⟨s1, ?_, (hI.1.work f1 (by omega)).mono (by omega), hI.2.1.cls f1 (by omega)⟩
        rw [if_pos (by decide), g_0_16, sb, o_281, sb, e1, sb, g_0_16, sb, g_281_2, sb, z2]
        rfl
    · rw [if_neg (fun h9 => c2 h9.2)]
      refine lN1 (hI.self ?_)
      unfold fX11_word
      rw [c_needP a1 a2, sb, if_pos c1]
      simp only []
      rw [show (9 : Int32) = i32 9 from by decide, c_needW b1 b2 (by omega) (by omega), sb, if_neg c2]
  · rw [if_neg (fun h9 => c1 h9.1)]
    refine lN1 (hI.self ?_)
    unfold fX11_word
    rw [c_needP a1 a2, sb, if_neg c1]
theorem RV.pr (hR : RV s g) {q : Nat} (hq : q < 6) : Pr (s.2 309) q (g.1.2 q).1 (g.1.2 q).2 := (hR.1.2.1 q hq).1
theorem kr_word (hR : RV s g) {a b : Int} (a1 : -2147483648 ≤ a) (a2 : a ≤ 2147483647) (b1 : -2147483648 ≤ b) (b2 : b ≤ 2147483647) (hL : ∀ q, q < 6 → 0 < (rch false g.1.1 (nowP g.1 q)).length ∧ (lnk (rch false g.1.1 (nowP g.1 q)) 0).1 = nowP g.1 q) : RA h s g (fX12_word (M h s) (h + 308) (i32 a) (i32 b)) (wdV g.1 a b).1 (wdV g.1 a b).2 := by
  have hV := hR.1.2.2
  have hR0 : RV (thr s 0) g := (rv_thr hR)
  have hno : fJX12_word_m_29 (M h (thr s 0)) (h + 308) (i32 a) (i32 b) (h + 308) = some (0, M h (thr s 1)) := by
    unfold fJX12_word_m_29 fJX12_word_m_30
    rw [o_308, sb, r_nayt, sb, if_pos rfl]
  unfold fX12_word wdV
  rw [w_thr, sb, r_place6 a1 a2, sb]
  by_cases c1 : 0 ≤ a ∧ a < 6
  · rw [if_pos c1, if_neg n10, show (0 : Int64) = i64 0 from by decide, show (9 : Int64) = i64 9 from by decide, in64 b1 b2 (by omega) (by omega), sb]
    by_cases c2 : 0 ≤ b ∧ b ≤ 9
    · rw [if_pos c2, if_neg n10, if_pos ⟨c1, c2⟩]
      obtain ⟨q, rfl⟩ := nat_of c1.1
      have hq : q < 6 := by omega
      have hk := nowP_Wk hV hq
      have hW := hk.ww hV.1.1.2
      obtain ⟨l0, l1⟩ := hL q hq
      unfold fJX12_word_m_30
      rw [o_308, sb, r_yes, sb, if_neg n10]
      simp only [tn0]
      rw [o_308, sb, r_wordAt hR0 hq, sb, show (4 : Int64) = i64 4 from by decide, show (7 : Int64) = i64 7 from by decide, in64 b1 b2 (by omega) (by omega), sb]
      unfold wdA
      rcases (show b = 0 ∨ b = 1 ∨ b = 2 ∨ b = 3 ∨ (4 ≤ b ∧ b ≤ 7) ∨ b = 8 ∨ b = 9 by omega) with rfl | rfl | rfl | rfl | c3 | rfl | rfl
      · rw [if_pos (by decide)]
        unfold fJX12_word_m_65
        rw [if_neg (by decide), if_pos (by decide), r_len hW, sb]
        exact ra_ask hR rfl
      · rw [if_pos (by decide)]
        unfold fJX12_word_m_65
        rw [if_neg (by decide), if_neg (by decide), if_pos (by decide), o_308, sb, r_weight hR0.row hW, sb]
        exact ra_ask hR rfl
      · rw [if_pos (by decide)]
        unfold fJX12_word_m_65
        obtain ⟨s1, e1, f1⟩ := r_stepsIn (h := h) hV.1 hR0.row hW
        rw [if_neg (by decide), if_neg (by decide), if_neg (by decide), if_pos (by decide), o_308, sb, e1, sb]
        exact ra_rf hR f1 (by omega) (by decide) (by decide) (by decide) (by decide) (by decide) (by decide) rfl
      · rw [if_pos (by decide)]
        unfold fJX12_word_m_65
        obtain ⟨s1, e1, f1⟩ := r_isNormal (h := h) hV.1 hR0.row hW
        rw [if_neg (by decide), if_neg (by decide), if_neg (by decide), if_neg (by decide), if_pos (by decide), o_308, sb, e1, sb]
        by_cases c4 : stps g.1.1 (nowP g.1 q) = []
        · simp only [if_pos c4]
          rw [if_neg n10]
          exact ra_rf hR f1 (by omega) (by decide) (by decide) (by decide) (by decide) (by decide) (by decide) rfl
        · simp only [if_neg c4]
          rw [if_pos trivial]
          exact ra_rf hR f1 (by omega) (by decide) (by decide) (by decide) (by decide) (by decide) (by decide) rfl
      · obtain ⟨s1, e1, f1, r1⟩ := r_laysReach (h := h) (u := 0) hV.1 hR0.row (by decide) hk
        have hR1 : RV s1 g := hR0.rf f1.1 (by omega) (by decide) (by decide) (by decide) (by decide) (by decide)
        rw [if_pos c3, if_neg n10, show (0 : Int32) = i32 ((0 : Nat) : Int) from rfl, sb, e1, sb]
        unfold fJX12_word_m_65
        rcases (show b = 4 ∨ b = 5 ∨ b = 6 ∨ b = 7 by omega) with rfl | rfl | rfl | rfl
        · rw [if_neg (by decide), if_neg (by decide), if_neg (by decide), if_neg (by decide), if_neg (by decide), if_pos (by decide), g_308_27, sb, q0, a_319 (by decide) (by decide), sb, show s1.1 319 (0 : Int).toNat = _ from r1.1]
          exact ra_rf hR f1.1 (by omega) (by decide) (by decide) (by decide) (by decide) (by decide) (by decide) rfl
        · obtain ⟨s2, e2, f2⟩ := r_normals (h := h) hV.1 hR1.row r1
          rw [if_neg (by decide), if_neg (by decide), if_neg (by decide), if_neg (by decide), if_neg (by decide), if_neg (by decide), if_pos (by decide), o_308, sb, e2, sb]
          exact ra_rf hR (f1.tr (RqF.of f2)).1 (by omega) (by decide) (by decide) (by decide) (by decide) (by decide) (by decide) rfl
        · obtain ⟨s2, e2, f2⟩ := r_endOf (h := h) hV.1 hR1.row r1
          rw [if_neg (by decide), if_neg (by decide), if_neg (by decide), if_neg (by decide), if_neg (by decide), if_neg (by decide), if_neg (by decide), if_pos (by decide), o_308, sb, e2, sb]
          exact ra_rf hR (f1.tr (RqF.of f2)).1 (by omega) (by decide) (by decide) (by decide) (by decide) (by decide) (by decide) rfl
        · obtain ⟨s2, e2, f2⟩ := r_loopOf (h := h) hV.1 hR1.row r1 l0
          rw [l1] at e2
          rw [if_neg (by decide), if_neg (by decide), if_neg (by decide), if_neg (by decide), if_neg (by decide), if_neg (by decide), if_neg (by decide), if_neg (by decide), if_pos (by decide), o_308, sb, e2, sb]
          exact ra_rf hR (f1.tr (RqF.of f2)).1 (by omega) (by decide) (by decide) (by decide) (by decide) (by decide) (by decide) rfl
      · rw [if_pos (by decide)]
        unfold fJX12_word_m_65
        rw [if_neg (by decide), if_neg (by decide), if_neg (by decide), if_neg (by decide), if_neg (by decide), if_neg (by decide), if_neg (by decide), if_neg (by decide), if_neg (by decide), if_pos (by decide), o_308, sb, r_stepsOf hq (hR0.pr hq), sb]
        exact ra_ask hR rfl
      · rw [if_pos (by decide)]
        unfold fJX12_word_m_65
        obtain ⟨s1, e1, f1, y1, -⟩ := r_draw (h := h) hV.1 hR0.row hq (hR0.pr hq) (hV.2 q hq).1
        have f2 := f1.rfx (lo := 325) (hi := 336) (by decide)
        have hR1 : RV s1 g := hR0.rf f2 (by omega) (by decide) (by decide) (by decide) (by decide) (by decide)
        obtain ⟨z1, z2, z3⟩ := zrd_40 hV hq
        rw [if_pos (by decide), o_308, sb, e1, sb, o_308, sb, r_rounds hq (hR1.pr hq) z2 y1 (fun k hk => by have := z3 k hk; omega), sb]
        exact ra_rf hR f2 (by omega) (by decide) (by decide) (by decide) (by decide) (by decide) (by decide) rfl
    · rw [if_neg c2, if_pos rfl, if_neg (fun h9 => c2 h9.2), hno]
      exact ra_exc hR (by decide) rfl
  · rw [if_neg c1, if_pos rfl, if_neg (fun h9 => c1 h9.1), hno]
    exact ra_exc hR (by decide) rfl
theorem k7 {sx : Nat → Int32} {L : Nat} {i : Int32} {y : Nat → Int32} (hI : Inv s N g) (hN : N ≤ 900000) (hy : Sc5 sx L i y) : KOK h N (fK7 sx L (h + 0) (h + 308) (h + 339) i (M h s)) := by
  obtain ⟨y1, y2, y3, y4, y5⟩ := hy
  obtain ⟨a, ea, a1, a2⟩ := i32_ex (y 1)
  obtain ⟨b, eb, b1, b2⟩ := i32_ex (y 2)
  rw [ea] at y1
  rw [eb] at y2
  unfold fK7
  simp only [y1, y2, sb]
  obtain ⟨v1, v2⟩ := wdV_b hI (a := a) (b := b)
  exact kstd (h := h) (oR := fun σ => fX12_word σ (h + 308) (i32 a) (i32 b)) hN hI.2.2.1 v1 v2 (kc_word hI a1 a2 b1 b2) (fun s1 _ r1 => kr_word r1 a1 a2 b1 b2 (fun q hq => by
    have := rch_b hI.1 (by omega) false (nowP_Wk hI.1.wf hq)
    exact ⟨this.2.2.2.2.1, this.2.2.2.2.2.1⟩))
end WD
