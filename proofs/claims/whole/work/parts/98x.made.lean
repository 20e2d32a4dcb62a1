/-! CALLS that ask: made, canon, areOne -/
section MD
variable {h : Nat} {s s' : Mm} {g g' : Gst} {N : Nat}
def zdT (X : Snap) (q : Nat) : List Ztp := (zd X.1 (X.2 q).1 (X.2 q).2).2.2
def ouT (X : Snap) (q : Nat) : List (Nat × Nat) := (zcs (zdT X q) (List.range (X.2 q).1.length) (X.2 q).2.length).2
theorem drw {X : Snap} (hV : VX X) {q : Nat} (hq : q < 6) : (ouT X q).length = (X.2 q).2.length ∧ (∀ k, k < (X.2 q).2.length → ∃ y ∈ ouT X q, y.2 = k) ∧ (∀ y ∈ ouT X q, y.2 < (X.2 q).2.length) := by
  obtain ⟨d1, d2⟩ := hV.2 q hq
  obtain ⟨z1, z2, z3⟩ := zd_ok hV.1 d1 (X.2 q).2.length (Nat.le_refl _)
  rw [List.take_length] at z1 z2 z3
  have hne : ∀ k, k < (zdT X q).length → zA (zdT X q) k ≠ [] := fun k hk => (z1.2.2.2.2.1 k hk).1
  obtain ⟨L, c1, c2⟩ := CI.all hne (CI.init z1) (zdT X q).length (Nat.le_refl _)
  have hL : L = [] := List.eq_nil_of_length_eq_zero (by omega)
  subst hL
  have z3' : (zdT X q).length = (X.2 q).2.length := z3
  obtain ⟨-, -, -, -, -, c6, c7, c8⟩ := c1
  rw [z3'] at c6 c7 c8
  refine ⟨by unfold ouT; have : _ + ([] : List Nat).length = _ := c8; simpa using this, fun k hk => (c6 k hk (by simp)).1, fun y hy => (c7 y hy).2⟩
def ixO (X : Snap) (q k : Nat) : Nat := (ouT X q).findIdx (fun y => decide (y.2 = k))
theorem ixO_ok {X : Snap} (hV : VX X) {q k : Nat} (hq : q < 6) (hk : k < (X.2 q).2.length) : ixO X q k < (ouT X q).length ∧ ((ouT X q).getD (ixO X q k) (0, 0)).2 = k := by
  obtain ⟨y, y1, y2⟩ := (drw hV hq).2.1 k hk
  have h1 : ixO X q k < (ouT X q).length := List.findIdx_lt_length_of_exists ⟨y, y1, decide_eq_true y2⟩
  refine ⟨h1, ?_⟩
  have h2 := List.findIdx_getElem (w := h1)
  rw [List.getD_eq_getElem?_getD, List.getElem?_eq_getElem h1]
  exact of_decide_eq_true h2
theorem stc_b {X : Snap} (hV : VX X) {q k : Nat} (hq : q < 6) (hk : k < (X.2 q).2.length) : ((X.2 q).2.getD k (0, 0)).1 < 16 ∧ ((X.2 q).2.getD k (0, 0)).2 < 12 := by
  obtain ⟨d1, d2⟩ := hV.2 q hq
  have h1 := d1.2 k hk
  have h2 := (dvW_Wk hV.1 d1 k (by omega)).1
  have h3 := hV.1.2.1
  exact ⟨by have := h1.1; omega, by have := h1.2.1; omega⟩
def mdA (X : Snap) (q k : Nat) (d : Int) : Int := if d = 0 then (((X.2 q).2.getD k (0, 0)).1 : Int) else if d = 1 then (((X.2 q).2.getD k (0, 0)).2 : Int) else if d = 2 then (zR (zdT X q) k : Int) else if d = 3 then (zN (zdT X q) k : Int) else (ixO X q k : Int)
def mdV (X : Snap) (a b d : Int) : Nat × Int := if (0 ≤ a ∧ a < 6) ∧ (0 ≤ b ∧ b < (X.2 a.toNat).2.length) ∧ 0 ≤ d ∧ d ≤ 4 then (0, cl (mdA X a.toNat b.toNat d)) else (1, 0)
theorem mdV_b {X : Snap} {a b d : Int} : (mdV X a b d).1 ≤ 2 ∧ -2147483648 ≤ (mdV X a b d).2 ∧ (mdV X a b d).2 ≤ 2147483647 := by
  unfold mdV
  split
  · exact ⟨by simp only []; omega, cl_b _⟩
  · simp only []; omega
theorem c_lenAt (hC : CV s N g) {q : Nat} (hq : q < 6) : aI (M h s) (h + 11) 0 (i32 (q : Int)) = some (i32 ((g.1.2 q).2.length : Int)) := by
  rw [a_11 (by omega) (by omega), tn0]; exact congrArg some (hC.pq hq).2.1
theorem kc_made (hI : Inv s N g) {a b d : Int} (a1 : -2147483648 ≤ a) (a2 : a ≤ 2147483647) (b1 : -2147483648 ≤ b) (b2 : b ≤ 2147483647) (d1 : -2147483648 ≤ d) (d2 : d ≤ 2147483647) : CA h N g g (fL_made (M h s) (h + 0) (i32 a) (i32 b) (i32 d) (h + 339)) (mdV g.1 a b d).1 (mdV g.1 a b d).2 := by
  have hV := hI.1.wf
  have hb := (mdV_b (X := g.1) (a := a) (b := b) (d := d)).2
  unfold fL_made
  unfold mdV at hb ⊢
  by_cases c1 : 0 ≤ a ∧ a < 6
  · obtain ⟨q, rfl⟩ := nat_of c1.1
    have hq : q < 6 := by omega
    have h40 := (hV.2 q hq).2
    rw [tn0] at hb ⊢
    by_cases c2 : 0 ≤ b ∧ b < (g.1.2 q).2.length
    · by_cases c3 : 0 ≤ d ∧ d ≤ 4
      · rw [if_pos ⟨c1, c2, c3⟩] at hb ⊢
        obtain ⟨k, rfl⟩ := nat_of c2.1
        have hk : k < (g.1.2 q).2.length := by omega
        obtain ⟨z0, z3, -⟩ := zrd_40 hV hq
        obtain ⟨i1, i2⟩ := ixO_ok hV hq hk
        obtain ⟨x1, x2⟩ := stc_b hV hq hk
        obtain ⟨s1, e1, f1, -, -, zs, zo⟩ := c_draw (h := h) hz1 hV.1 hI.1.rs hq (hI.1.pq hq) (hV.2 q hq).1
        have k1 : CV s1 N g := hI.1.work f1 (by omega)
        obtain ⟨-, z1, z2, z4, z5⟩ := zs k (by rw [z3]; exact hk)
        have zo3 := (zo (ixO g.1 q k) i1).2.2
        refine lN0 hb ⟨s1, ?_, k1.mono (by omega), hI.2.1.cls f1 (by omega)⟩
        simp only [tn0]
        rw [i32_cl]
        unfold fX11_made
        rw [c_needP a1 a2, sb, if_pos c1]
        simp only []
        rw [g_0_3, sb, g_2_3, sb, c_lenAt hI.1 hq, sb, c_needB b1 b2 (by omega) (by omega), sb, if_pos c2]
        simp only []
        rw [show (4 : Int32) = i32 4 from by decide, c_needW d1 d2 (by omega) (by omega), sb, if_pos c3]
        simp only []
        rw [g_0_16, sb, o_281, sb, e1, sb]
        rcases (show d = 0 ∨ d = 1 ∨ d = 2 ∨ d = 3 ∨ d = 4 by omega) with rfl | rfl | rfl | rfl | rfl
        · rw [if_neg (by decide), if_pos (by decide), g_0_3, sb, o_2, sb, c_codeAt hq (k1.pq hq) hk, sb, c_wh x1 x2, sb]; rfl
        · rw [if_neg (by decide), if_neg (by decide), if_pos (by decide), g_0_3, sb, o_2, sb, c_codeAt hq (k1.pq hq) hk, sb, c_rl x2, sb]; rfl
        · rw [if_neg (by decide), if_neg (by decide), if_neg (by decide), if_pos (by decide), g_0_16, sb, g_281_12, sb, a_289 (by omega) (by omega), sb, tn0, show s1.1 289 k = _ from z4]; rfl
        · rw [if_neg (by decide), if_neg (by decide), if_neg (by decide), if_neg (by decide), if_pos (by decide), g_0_16, sb, g_281_13, sb, a_290 (by omega) (by omega), sb, tn0, show s1.1 290 k = _ from z5]; rfl
        · have zo4 : s1.1 291 k = i32 (ixO g.1 q k : Int) := by
            have : ((zcs (zd g.1.1 (g.1.2 q).1 (g.1.2 q).2).2.2 (List.range (g.1.2 q).1.length) (g.1.2 q).2.length).2.getD (ixO g.1 q k) (0, 0)).2 = k := i2
            rw [this] at zo3
            exact zo3
          rw [if_pos (by decide), g_0_16, sb, g_281_14, sb, a_291 (by omega) (by omega), sb, tn0, zo4]; rfl
      · rw [if_neg (fun h9 => c3 h9.2.2)]
        refine lN1 (hI.self ?_)
        unfold fX11_made
        rw [c_needP a1 a2, sb, if_pos c1]
        simp only []
        rw [g_0_3, sb, g_2_3, sb, c_lenAt hI.1 hq, sb, c_needB b1 b2 (by omega) (by omega), sb, if_pos c2]
        simp only []
        rw [show (4 : Int32) = i32 4 from by decide, c_needW d1 d2 (by omega) (by omega), sb, if_neg c3]
    · rw [if_neg (fun h9 => c2 h9.2.1)]
      refine lN1 (hI.self ?_)
      unfold fX11_made
      rw [c_needP a1 a2, sb, if_pos c1]
      simp only []
      rw [g_0_3, sb, g_2_3, sb, c_lenAt hI.1 hq, sb, c_needB b1 b2 (by omega) (by omega), sb, if_neg c2]
  · rw [if_neg (fun h9 => c1 h9.1)]
    refine lN1 (hI.self ?_)
    unfold fX11_made
    rw [c_needP a1 a2, sb, if_neg c1]
theorem r_isMade (hR : RV s g) {a b : Int} (a1 : -2147483648 ≤ a) (a2 : a ≤ 2147483647) (b1 : -2147483648 ≤ b) (b2 : b ≤ 2147483647) : fX12_isMade (M h s) (h + 308) (i32 a) (i32 b) = some (if (0 ≤ a ∧ a < 6) ∧ 0 ≤ b ∧ b < (g.1.2 a.toNat).2.length then 1 else 0) := by
  have hV := hR.1.2.2
  unfold fX12_isMade
  rw [r_place6 a1 a2, sb]
  by_cases c1 : 0 ≤ a ∧ a < 6
  · obtain ⟨q, rfl⟩ := nat_of c1.1
    have hq : q < 6 := by omega
    have h40 := (hV.2 q hq).2
    rw [tn0, if_pos c1, if_neg n10, o_308, sb, r_stepsOf hq (hR.pr hq), sb, show (1 : Int32) = i32 1 from by decide, s32, show (0 : Int64) = i64 0 from by decide, toL (show -2147483648 ≤ (((g.1.2 q).2.length : Nat) : Int) - 1 by omega) (by omega), in64 b1 b2 (by omega) (by omega), sb]
    by_cases c2 : 0 ≤ b ∧ b < (g.1.2 q).2.length
    · rw [if_pos (show (0 : Int) ≤ b ∧ b ≤ (((g.1.2 q).2.length : Nat) : Int) - 1 by omega), if_neg (by decide), if_pos ⟨c1, c2⟩]
    · rw [if_neg (show ¬ ((0 : Int) ≤ b ∧ b ≤ (((g.1.2 q).2.length : Nat) : Int) - 1) by omega), if_pos rfl, if_neg (fun h9 => c2 h9.2)]
  · rw [if_neg c1, if_pos rfl, if_neg (fun h9 => c1 h9.1)]
theorem kr_made (hR : RV s g) {a b d : Int} (a1 : -2147483648 ≤ a) (a2 : a ≤ 2147483647) (b1 : -2147483648 ≤ b) (b2 : b ≤ 2147483647) (d1 : -2147483648 ≤ d) (d2 : d ≤ 2147483647) : RA h s g (fX12_made_ (M h s) (h + 308) (i32 a) (i32 b) (i32 d)) (mdV g.1 a b d).1 (mdV g.1 a b d).2 := by
  have hV := hR.1.2.2
  have hR0 : RV (thr s 0) g := (rv_thr hR)
  have hno : fJX12_made__m_31 (M h (thr s 0)) (h + 308) (i32 a) (i32 b) (i32 d) (h + 308) = some (0, M h (thr s 1)) := by
    unfold fJX12_made__m_31 fJX12_made__m_32
    rw [o_308, sb, r_nayt, sb, if_pos rfl]
  unfold fX12_made_ mdV
  rw [w_thr, sb, o_308, sb, r_isMade hR0 a1 a2 b1 b2, sb]
  by_cases c1 : (0 ≤ a ∧ a < 6) ∧ 0 ≤ b ∧ b < (g.1.2 a.toNat).2.length
  · rw [if_pos c1, if_neg n10, show (0 : Int64) = i64 0 from by decide, show (4 : Int64) = i64 4 from by decide, in64 d1 d2 (by omega) (by omega), sb]
    by_cases c3 : 0 ≤ d ∧ d ≤ 4
    · rw [if_pos c3, if_neg n10, if_pos ⟨c1.1, c1.2, c3⟩]
      obtain ⟨q, rfl⟩ := nat_of c1.1.1
      obtain ⟨k, rfl⟩ := nat_of c1.2.1
      simp only [tn0] at c1 ⊢
      have hq : q < 6 := by omega
      have h40 := (hV.2 q hq).2
      have hk : k < (g.1.2 q).2.length := by omega
      obtain ⟨z0, z3, -⟩ := zrd_40 hV hq
      obtain ⟨i1, i2⟩ := ixO_ok hV hq hk
      have hx := stc_b hV hq hk
      obtain ⟨s1, e1, f0, ys, yo⟩ := r_draw (h := h) hV.1 hR0.row hq (hR0.pr hq) (hV.2 q hq).1
      have f1 := f0.rfx (lo := 325) (hi := 336) (by decide)
      have hR1 : RV s1 g := hR0.rf f1 (by omega) (by decide) (by decide) (by decide) (by decide) (by decide)
      obtain ⟨-, z1, z2, z4, z5⟩ := ys k (by rw [z3]; exact hk)
      have zo3 := (yo (ixO g.1 q k) i1).2.2
      unfold fJX12_made__m_32
      rw [o_308, sb, r_yes, sb, if_neg n10]
      simp only []
      rw [o_308, sb, e1, sb]
      rcases (show d = 0 ∨ d = 1 ∨ d = 2 ∨ d = 3 ∨ d = 4 by omega) with rfl | rfl | rfl | rfl | rfl
      · rw [if_neg (by decide), if_pos (by decide), o_308, sb, r_whereOf hq (hR1.pr hq) hk hx, sb]
        exact ra_rf hR f1 (by omega) (by decide) (by decide) (by decide) (by decide) (by decide) (by decide) (by rw [i32_cl]; rfl)
      · rw [if_neg (by decide), if_neg (by decide), if_pos (by decide), o_308, sb, r_ruleOf hq (hR1.pr hq) hk hx, sb]
        exact ra_rf hR f1 (by omega) (by decide) (by decide) (by decide) (by decide) (by decide) (by decide) (by rw [i32_cl]; rfl)
      · rw [if_neg (by decide), if_neg (by decide), if_neg (by decide), if_pos (by decide), g_308_49, sb, a_331 (by omega) (by omega), sb, tn0, z4]
        exact ra_rf hR f1 (by omega) (by decide) (by decide) (by decide) (by decide) (by decide) (by decide) (by rw [i32_cl]; rfl)
      · rw [if_neg (by decide), if_neg (by decide), if_neg (by decide), if_neg (by decide), if_pos (by decide), g_308_50, sb, a_332 (by omega) (by omega), sb, tn0, z5]
        exact ra_rf hR f1 (by omega) (by decide) (by decide) (by decide) (by decide) (by decide) (by decide) (by rw [i32_cl]; rfl)
      · have zo4 : s1.1 333 k = i32 (ixO g.1 q k : Int) := by
          have : ((zcs (zd g.1.1 (g.1.2 q).1 (g.1.2 q).2).2.2 (List.range (g.1.2 q).1.length) (g.1.2 q).2.length).2.getD (ixO g.1 q k) (0, 0)).2 = k := i2
          rw [this] at zo3
          exact zo3
        rw [if_pos (by decide), g_308_51, sb, a_333 (by omega) (by omega), sb, tn0, zo4]
        exact ra_rf hR f1 (by omega) (by decide) (by decide) (by decide) (by decide) (by decide) (by decide) (by rw [i32_cl]; rfl)
    · rw [if_neg c3, if_pos rfl, if_neg (fun h9 => c3 h9.2.2), hno]
      exact ra_exc hR (by decide) rfl
  · rw [if_neg c1, if_pos rfl, if_neg (fun h9 => c1 ⟨h9.1, h9.2.1⟩), hno]
    exact ra_exc hR (by decide) rfl
theorem k28 {sx : Nat → Int32} {L : Nat} {i : Int32} {y : Nat → Int32} (hI : Inv s N g) (hN : N ≤ 900000) (hy : Sc5 sx L i y) : KOK h N (fK28 sx L (h + 0) (h + 308) (h + 339) i (M h s)) := by
  obtain ⟨y1, y2, y3, y4, y5⟩ := hy
  obtain ⟨a, ea, a1, a2⟩ := i32_ex (y 1)
  obtain ⟨b, eb, b1, b2⟩ := i32_ex (y 2)
  obtain ⟨d, ed, d1, d2⟩ := i32_ex (y 3)
  rw [ea] at y1
  rw [eb] at y2
  rw [ed] at y3
  unfold fK28
  simp only [y1, y2, y3, sb]
  obtain ⟨v1, v2⟩ := mdV_b (X := g.1) (a := a) (b := b) (d := d)
  exact kstd (h := h) (oR := fun σ => fX12_made_ σ (h + 308) (i32 a) (i32 b) (i32 d)) hN hI.2.2.1 v1 v2 (kc_made hI a1 a2 b1 b2 d1 d2) (fun s1 _ r1 => kr_made r1 a1 a2 b1 b2 d1 d2)
/-! canon -/
def cnA (X : Snap) (q k : Nat) (d : Int) : Int := if d = 0 then (((ouT X q).getD k (0, 0)).1 : Int) else (((X.2 q).2.getD ((ouT X q).getD k (0, 0)).2 (0, 0)).2 : Int)
def cnV (X : Snap) (a b d : Int) : Nat × Int := if (0 ≤ a ∧ a < 6) ∧ (0 ≤ b ∧ b < (X.2 a.toNat).2.length) ∧ 0 ≤ d ∧ d ≤ 1 then (0, cl (cnA X a.toNat b.toNat d)) else (1, 0)
theorem cnV_b {X : Snap} {a b d : Int} : (cnV X a b d).1 ≤ 2 ∧ -2147483648 ≤ (cnV X a b d).2 ∧ (cnV X a b d).2 ≤ 2147483647 := by
  unfold cnV
  split
  · exact ⟨by simp only []; omega, cl_b _⟩
  · simp only []; omega
theorem kc_canon (hI : Inv s N g) {a b d : Int} (a1 : -2147483648 ≤ a) (a2 : a ≤ 2147483647) (b1 : -2147483648 ≤ b) (b2 : b ≤ 2147483647) (d1 : -2147483648 ≤ d) (d2 : d ≤ 2147483647) : CA h N g g (fL_canon (M h s) (h + 0) (i32 a) (i32 b) (i32 d) (h + 339)) (cnV g.1 a b d).1 (cnV g.1 a b d).2 := by
  have hV := hI.1.wf
  have hb := (cnV_b (X := g.1) (a := a) (b := b) (d := d)).2
  unfold fL_canon
  unfold cnV at hb ⊢
  by_cases c1 : 0 ≤ a ∧ a < 6
  · obtain ⟨q, rfl⟩ := nat_of c1.1
    have hq : q < 6 := by omega
    have h40 := (hV.2 q hq).2
    rw [tn0] at hb ⊢
    by_cases c2 : 0 ≤ b ∧ b < (g.1.2 q).2.length
    · by_cases c3 : 0 ≤ d ∧ d ≤ 1
      · rw [if_pos ⟨c1, c2, c3⟩] at hb ⊢
        obtain ⟨k, rfl⟩ := nat_of c2.1
        have hk : k < (g.1.2 q).2.length := by omega
        have hko : k < (ouT g.1 q).length := by rw [(drw hV hq).1]; exact hk
        obtain ⟨s1, e1, f1, -, -, zs, zo⟩ := c_draw (h := h) hz1 hV.1 hI.1.rs hq (hI.1.pq hq) (hV.2 q hq).1
        have k1 : CV s1 N g := hI.1.work f1 (by omega)
        obtain ⟨z1, z2, -⟩ := zo k hko
        refine lN0 hb ⟨s1, ?_, k1.mono (by omega), hI.2.1.cls f1 (by omega)⟩
        simp only [tn0]
        rw [i32_cl]
        unfold fX11_canon
        rw [c_needP a1 a2, sb, if_pos c1]
        simp only []
        rw [g_0_3, sb, g_2_3, sb, c_lenAt hI.1 hq, sb, c_needB b1 b2 (by omega) (by omega), sb, if_pos c2]
        simp only []
        rw [show (1 : Int32) = i32 1 from by decide, c_needW d1 d2 (by omega) (by omega), sb, if_pos c3]
        simp only []
        rw [g_0_16, sb, o_281, sb, e1, sb]
        rcases (show d = 0 ∨ d = 1 by omega) with rfl | rfl
        · rw [if_pos (by decide), g_0_16, sb, g_281_15, sb, a_292 (by omega) (by omega), sb, tn0, show s1.1 292 k = _ from z1]; rfl
        · rw [if_neg (by decide), g_0_16, sb, g_281_16, sb, a_293 (by omega) (by omega), sb, tn0, show s1.1 293 k = _ from z2]; rfl
      · rw [if_neg (fun h9 => c3 h9.2.2)]
        refine lN1 (hI.self ?_)
        unfold fX11_canon
        rw [c_needP a1 a2, sb, if_pos c1]
        simp only []
        rw [g_0_3, sb, g_2_3, sb, c_lenAt hI.1 hq, sb, c_needB b1 b2 (by omega) (by omega), sb, if_pos c2]
        simp only []
        rw [show (1 : Int32) = i32 1 from by decide, c_needW d1 d2 (by omega) (by omega), sb, if_neg c3]
    · rw [if_neg (fun h9 => c2 h9.2.1)]
      refine lN1 (hI.self ?_)
      unfold fX11_canon
      rw [c_needP a1 a2, sb, if_pos c1]
      simp only []
      rw [g_0_3, sb, g_2_3, sb, c_lenAt hI.1 hq, sb, c_needB b1 b2 (by omega) (by omega), sb, if_neg c2]
  · rw [if_neg (fun h9 => c1 h9.1)]
    refine lN1 (hI.self ?_)
    unfold fX11_canon
    rw [c_needP a1 a2, sb, if_neg c1]
theorem kr_canon (hR : RV s g) {a b d : Int} (a1 : -2147483648 ≤ a) (a2 : a ≤ 2147483647) (b1 : -2147483648 ≤ b) (b2 : b ≤ 2147483647) (d1 : -2147483648 ≤ d) (d2 : d ≤ 2147483647) : RA h s g (fX12_canon (M h s) (h + 308) (i32 a) (i32 b) (i32 d)) (cnV g.1 a b d).1 (cnV g.1 a b d).2 := by
  have hV := hR.1.2.2
  have hR0 : RV (thr s 0) g := (rv_thr hR)
  have hno : fJX12_canon_m_29 (M h (thr s 0)) (h + 308) (i32 a) (i32 b) (i32 d) (h + 308) = some (0, M h (thr s 1)) := by
    unfold fJX12_canon_m_29 fJX12_canon_m_30
    rw [o_308, sb, r_nayt, sb, if_pos rfl]
  unfold fX12_canon cnV
  rw [w_thr, sb, o_308, sb, r_isMade hR0 a1 a2 b1 b2, sb]
  by_cases c1 : (0 ≤ a ∧ a < 6) ∧ 0 ≤ b ∧ b < (g.1.2 a.toNat).2.length
  · rw [if_pos c1, if_neg n10, show (0 : Int64) = i64 0 from by decide, show (1 : Int64) = i64 1 from by decide, in64 d1 d2 (by omega) (by omega), sb]
    by_cases c3 : 0 ≤ d ∧ d ≤ 1
    · rw [if_pos c3, if_neg n10, if_pos ⟨c1.1, c1.2, c3⟩]
      obtain ⟨q, rfl⟩ := nat_of c1.1.1
      obtain ⟨k, rfl⟩ := nat_of c1.2.1
      simp only [tn0] at c1 ⊢
      have hq : q < 6 := by omega
      have h40 := (hV.2 q hq).2
      have hk : k < (g.1.2 q).2.length := by omega
      have hko : k < (ouT g.1 q).length := by rw [(drw hV hq).1]; exact hk
      have hm : ((ouT g.1 q).getD k (0, 0)).2 < (g.1.2 q).2.length := (drw hV hq).2.2 _ (getD_mem hko)
      have hx := stc_b hV hq hm
      obtain ⟨s1, e1, f0, ys, yo⟩ := r_draw (h := h) hV.1 hR0.row hq (hR0.pr hq) (hV.2 q hq).1
      have f1 := f0.rfx (lo := 325) (hi := 336) (by decide)
      have hR1 : RV s1 g := hR0.rf f1 (by omega) (by decide) (by decide) (by decide) (by decide) (by decide)
      obtain ⟨z1, z2, -⟩ := yo k hko
      have z1 : s1.1 334 k = i32 (((ouT g.1 q).getD k (0, 0)).1 : Int) := z1
      have z2 : s1.1 335 k = i32 (((ouT g.1 q).getD k (0, 0)).2 : Int) := z2
      unfold fJX12_canon_m_30
      rw [o_308, sb, r_yes, sb, if_neg n10]
      simp only []
      rw [o_308, sb, e1, sb]
      rcases (show d = 0 ∨ d = 1 by omega) with rfl | rfl
      · rw [if_pos (by decide), g_308_52, sb, a_334 (by omega) (by omega), sb, tn0, z1]
        exact ra_rf hR f1 (by omega) (by decide) (by decide) (by decide) (by decide) (by decide) (by decide) (by rw [i32_cl]; rfl)
      · rw [if_neg (by decide), g_308_53, sb, a_335 (by omega) (by omega), sb, tn0, z2, o_308, sb, r_ruleOf hq (hR1.pr hq) hm hx, sb]
        exact ra_rf hR f1 (by omega) (by decide) (by decide) (by decide) (by decide) (by decide) (by decide) (by rw [i32_cl]; rfl)
    · rw [if_neg c3, if_pos rfl, if_neg (fun h9 => c3 h9.2.2), hno]
      exact ra_exc hR (by decide) rfl
  · rw [if_neg c1, if_pos rfl, if_neg (fun h9 => c1 ⟨h9.1, h9.2.1⟩), hno]
    exact ra_exc hR (by decide) rfl
theorem k29 {sx : Nat → Int32} {L : Nat} {i : Int32} {y : Nat → Int32} (hI : Inv s N g) (hN : N ≤ 900000) (hy : Sc5 sx L i y) : KOK h N (fK29 sx L (h + 0) (h + 308) (h + 339) i (M h s)) := by
  obtain ⟨y1, y2, y3, y4, y5⟩ := hy
  obtain ⟨a, ea, a1, a2⟩ := i32_ex (y 1)
  obtain ⟨b, eb, b1, b2⟩ := i32_ex (y 2)
  obtain ⟨d, ed, d1, d2⟩ := i32_ex (y 3)
  rw [ea] at y1
  rw [eb] at y2
  rw [ed] at y3
  unfold fK29
  simp only [y1, y2, y3, sb]
  obtain ⟨v1, v2⟩ := cnV_b (X := g.1) (a := a) (b := b) (d := d)
  exact kstd (h := h) (oR := fun σ => fX12_canon σ (h + 308) (i32 a) (i32 b) (i32 d)) hN hI.2.2.1 v1 v2 (kc_canon hI a1 a2 b1 b2 d1 d2) (fun s1 _ r1 => kr_canon r1 a1 a2 b1 b2 d1 d2)
end MD
