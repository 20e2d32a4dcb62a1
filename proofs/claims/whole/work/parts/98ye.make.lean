/-! CALLS that change: make, take -/
section MK
variable {h : Nat} {s s' : Mm} {g g' : Gst} {N : Nat}
def mkR (g : Gst) (a b : Int) : Gst × Nat × Int := if 0 ≤ a ∧ a < 6 then (if 0 ≤ b ∧ (g.1.2 a.toNat).2.length < 40 then (match (stps g.1.1 (nowP g.1 a.toNat))[b.toNat]? with
    | none => (g, 0, -1)
    | some x => ((addP g.1 a.toNat x, psh g.2.1 g.1, g.2.2), 0, ((aft g.1.1 (nowP g.1 a.toNat) x).length : Int))) else (g, 0, -1)) else (g, 1, 0)
theorem aft_wk (hV : VX g.1) {q : Nat} (hq : q < 6) {x : Nat × Nat} (hx : okS g.1.1 (nowP g.1 q) x) (hl : (g.1.2 q).2.length < 40) : Wk g.1.1.1 (aft g.1.1 (nowP g.1 q) x) := by
  have := nowP_Wk (addP_VX hV hq hx hl) hq
  rw [nowP_add] at this
  exact this
theorem mkR_b (hV : VX g.1) {a b : Int} : (mkR g a b).2.1 ≤ 2 ∧ -2147483648 ≤ (mkR g a b).2.2 ∧ (mkR g a b).2.2 ≤ 2147483647 := by
  unfold mkR
  split
  · rename_i c
    split
    · rename_i c2
      cases e : (stps g.1.1 (nowP g.1 a.toNat))[b.toNat]? with
      | none => simp only []; omega
      | some x =>
        have hq : a.toNat < 6 := by omega
        have := (aft_wk hV hq (stp_b hV hq e).1 c2.2).1
        simp only []; omega
    · simp only []; omega
  · simp only []; omega
theorem mkR_ok (hk : okG g) {a b : Int} : okG (mkR g a b).1 := by
  unfold mkR
  split
  · split
    · cases (stps g.1.1 (nowP g.1 a.toNat))[b.toNat]? with
      | none => exact hk
      | some x => exact hk
    · exact hk
  · exact hk
theorem c_keepV (hC : CV s N g) : ∃ s', fX0_keep (M h s) (h + 24) (h + 2) = some (M h s') ∧ Fr 24 245 s s' ∧ CV s' N (g.1, psh g.2.1 g.1, g.2.2) := by
  obtain ⟨s1, e1, f1, a1⟩ := c_keep (h := h) hC.1 hC.2.1
  exact ⟨s1, e1, f1, hC.kp f1 a1⟩
theorem r_keepV (hR : RV s g) : ∃ s', fX12_keeps (M h s) (h + 308) = some (M h s') ∧ Fr 308 338 s s' ∧ RV s' (g.1, psh g.2.1 g.1, g.2.2) ∧ (∀ j, j ≠ 5 → s'.1 308 j = s.1 308 j) ∧ (∀ i, i ≠ 308 → s'.1 i = s.1 i) ∧ (∀ i, i ≠ 310 → s'.2 i = s.2 i) := by
  obtain ⟨s1, e1, h1, h2, h3, h4⟩ := r_keeps (h := h) hR.2.1 hR.1
  exact ⟨s1, e1, kp_fr h1 h2, hR.kp h1 h2 h3 h4, h3, h1, h2⟩
theorem kc_make (hI : Inv s N g) {a b : Int} (a1 : -2147483648 ≤ a) (a2 : a ≤ 2147483647) (b1 : -2147483648 ≤ b) (b2 : b ≤ 2147483647) : CA h N g (mkR g a b).1 (fL_make (M h s) (h + 0) (i32 a) (i32 b) (h + 339)) (mkR g a b).2.1 (mkR g a b).2.2 := by
  have hV := hI.1.wf
  have hb := (mkR_b hV (a := a) (b := b)).2
  unfold fL_make
  unfold mkR at hb ⊢
  by_cases c1 : 0 ≤ a ∧ a < 6
  · rw [if_pos c1] at hb ⊢
    obtain ⟨q, rfl⟩ := nat_of c1.1
    have hq : q < 6 := by omega
    have hW := (nowP_Wk hV hq).ww hV.1.1.2
    have h40 := (hV.2 q hq).2
    rw [tn0] at hb ⊢
    by_cases c2 : 0 ≤ b ∧ (g.1.2 q).2.length < 40
    · rw [if_pos c2] at hb ⊢
      obtain ⟨k, rfl⟩ := nat_of c2.1
      rw [tn0] at hb ⊢
      have hpre : fX11_make (M h s) (h + 0) (i32 (q : Int)) (i32 (k : Int)) = (if i32 (codO (stps g.1.1 (nowP g.1 q))[k]?) = -1 then some (Sum.inl (-1), M h s) else ((fX0_keep (M h s) (h + 24) (h + 2)).bind fun w60 => (gR w60 (h + 0) 10 3).bind fun v64 => (isO w60 v64 2).bind fun _ => (fX2_addStep w60 v64 (i32 (q : Int)) (i32 (codO (stps g.1.1 (nowP g.1 q))[k]?))).bind fun w69 => (gR w69 (h + 0) 10 3).bind fun v73 => (gR w69 v73 2 2).bind fun v76 => (aL w69 v76 (i32 (q : Int))).bind fun v80 => (fX10_length v80).bind fun w81 => some (Sum.inl w81, w69))) := by
        unfold fX11_make
        rw [c_needP a1 a2, sb, if_pos c1]
        simp only []
        rw [if_neg (by rw [q0]; rw [lt32 (by omega) (by omega) (by omega) (by omega)]; omega), g_0_3, sb, g_2_3, sb, c_lenAt hI.1 hq, sb, if_pos (by rw [q40]; rw [lt32 (by omega) (by omega) (by omega) (by omega)]; omega), sb, g_2_0, sb, sb, g_2_2, sb, c_nowAt hI.1 hq, sb, o_3, sb, c_stepCode hV.1 hI.1.rs hW (show k ≤ 2147483647 by omega), sb, g_0_6, sb, sb, o_24, sb]
      cases e : (stps g.1.1 (nowP g.1 q))[k]? with
      | none =>
        rw [e] at hb hpre
        refine lN0 hb (hI.self ?_)
        rw [hpre, if_pos (by decide)]; rfl
      | some x =>
        rw [e] at hb hpre
        obtain ⟨x0, x1, x2⟩ := stp_b hV hq e
        have hc : cod x ≤ 255 := by unfold cod; omega
        have hne : ¬ i32 (codO (some x)) = -1 := by
          show ¬ i32 (cod x : Int) = -1
          rw [show (-1 : Int32) = i32 (-1) from by decide]; rw [eq32 (by omega) (by omega) (by omega) (by omega)]; omega
        obtain ⟨s1, e1, f1, k1⟩ := c_keepV (h := h) hI.1
        obtain ⟨s2, e2, f2, d2⟩ := c_addStep (h := h) k1.1 hq x0 c2.2
        have e2' : fX2_addStep (M h s1) (h + 2) (i32 (q : Int)) (i32 (codO (some x))) = some (M h s2) := e2
        have k2 : CV s2 N (addP g.1 q x, psh g.2.1 g.1, g.2.2) := k1.put (f2.mono (by decide) (by decide)) d2 rfl
        have hn : nowP (addP g.1 q x) q = aft g.1.1 (nowP g.1 q) x := nowP_add
        refine lN0 hb ⟨s2, ?_, k2.mono (by omega), (hI.2.1.cls f1 (by omega)).cls f2 (by omega)⟩
        rw [hpre, if_neg hne, e1, sb, g_0_3, sb, o_2, sb, e2', sb, g_0_3, sb, g_2_2, sb, c_nowAt k2 hq, sb]
        show ((fX10_length (i64 (cw (nowP (addP g.1 q x) q) : Int))).bind fun w81 => some (Sum.inl w81, M h s2)) = _
        rw [hn, c_len ((aft_wk hV hq x0 c2.2).ww hV.1.1.2), sb]
    · rw [if_neg c2] at hb ⊢
      refine lN0 hb (hI.self ?_)
      unfold fX11_make
      rw [c_needP a1 a2, sb, if_pos c1]
      simp only []
      by_cases c3 : b < 0
      · rw [if_pos (by rw [q0]; rw [lt32 (by omega) (by omega) (by omega) (by omega)]; omega)]; rfl
      · rw [if_neg (by rw [q0]; rw [lt32 (by omega) (by omega) (by omega) (by omega)]; omega), g_0_3, sb, g_2_3, sb, c_lenAt hI.1 hq, sb, if_neg (by rw [q40]; rw [lt32 (by omega) (by omega) (by omega) (by omega)]; omega)]; rfl
  · rw [if_neg c1]
    refine lN1 (hI.self ?_)
    unfold fX11_make
    rw [c_needP a1 a2, sb, if_neg c1]
theorem kr_make (hR : RV s g) {a b : Int} (a1 : -2147483648 ≤ a) (a2 : a ≤ 2147483647) (b1 : -2147483648 ≤ b) (b2 : b ≤ 2147483647) : RA h s (mkR g a b).1 (fX12_make (M h s) (h + 308) (i32 a) (i32 b)) (mkR g a b).2.1 (mkR g a b).2.2 := by
  have hV := hR.1.2.2
  have hR0 : RV (thr s 0) g := (rv_thr hR)
  unfold fX12_make mkR
  rw [w_thr, sb, r_place6 a1 a2, sb, o_308, sb]
  by_cases c1 : 0 ≤ a ∧ a < 6
  · rw [if_pos c1, if_pos c1, r_yes, sb, if_neg n10]
    obtain ⟨q, rfl⟩ := nat_of c1.1
    have hq : q < 6 := by omega
    have hW := (nowP_Wk hV hq).ww hV.1.1.2
    have h40 := (hV.2 q hq).2
    simp only [tn0]
    by_cases c0 : b < 0
    · rw [if_pos (show i32 b < 0 by rw [q0]; rw [lt32 (by omega) (by omega) (by omega) (by omega)]; omega), if_neg (show ¬ (0 ≤ b ∧ (g.1.2 q).2.length < 40) by omega)]
      exact ra_ask hR rfl
    · rw [if_neg (show ¬ i32 b < 0 by rw [q0]; rw [lt32 (by omega) (by omega) (by omega) (by omega)]; omega), o_308, sb, r_stepsOf hq (hR0.pr hq), sb]
      by_cases c2 : (g.1.2 q).2.length < 40
      · obtain ⟨k, rfl⟩ := nat_of (show 0 ≤ b by omega)
        rw [if_neg (show ¬ i32 ((g.1.2 q).2.length : Int) = 40 by rw [q40]; rw [eq32 (by omega) (by omega) (by omega) (by omega)]; omega), if_pos (show 0 ≤ (k : Int) ∧ (g.1.2 q).2.length < 40 by omega), tn0, sb, r_wordAt hR0 hq, sb, sb]
        obtain ⟨s1, bb, e1, f1, e2⟩ := r_finds (h := h) hV.1 hR0.row hW (k := (k : Int)) (by omega)
        have hR1 : RV s1 g := hR0.rf f1 (by omega) (by decide) (by decide) (by decide) (by decide) (by decide)
        rw [e1, sb]
        rcases e2 with ⟨x, -, x2, rfl, x3, x4, x5⟩ | ⟨x1, rfl, -⟩
        · rw [tn0] at x2
          rw [x2, if_neg n10]
          obtain ⟨y0, y1, y2⟩ := stp_b hV hq x2
          obtain ⟨s2, e3, f2, r2, z2, z3, z4⟩ := r_keepV (h := h) hR1
          obtain ⟨f, e4, hX⟩ := r_makes (h := h) r2.1 hq y0 c2
          have r3 : RV (mL s2 309 f) (addP g.1 q x, psh g.2.1 g.1, g.2.2) := r2.put hX
          have hn : nowP (addP g.1 q x) q = aft g.1.1 (nowP g.1 q) x := nowP_add
          have w1 : s2.1 308 16 = i32 (x.1 : Int) := by rw [z2 16 (by decide)]; exact x3
          have w2 : s2.1 308 17 = i32 (x.2 : Int) := by rw [z2 17 (by decide)]; exact x4
          have w3 : s2.2 308 18 = i64 (r6 (aft g.1.1 (nowP g.1 q) x) : Int) := by rw [z4 308 (by decide)]; exact x5
          simp only []
          rw [o_308, sb, e3, sb, g_308_16, sb, g_308_17, sb, g_308_18, sb, o_308, sb, w1, w2, w3, e4, sb, o_308, sb, r_wordAt r3 hq, sb]
          show RA h s (addP g.1 q x, psh g.2.1 g.1, g.2.2) ((fX12_length (i64 (r6 (nowP (addP g.1 q x) q) : Int))).bind fun w74 => some (w74, M h (mL s2 309 f))) 0 _
          rw [hn, r_len ((aft_wk hV hq y0 c2).ww hV.1.1.2), sb]
          refine ra_ans (((thr_fr (k := 0)).tr (f1.to (by omega))).tr (f2.tr put_fr)) r3 ?_ rfl
          show s2.1 308 0 = 0
          rw [z2 0 (by decide)]
          exact f1.t0 (by decide)
        · have x2 : (stps g.1.1 (nowP g.1 q))[k]? = none := by
            rcases x1 with x1 | x1
            · omega
            · rw [tn0] at x1; exact x1
          rw [x2, if_pos rfl]
          exact ra_rf hR f1 (by omega) (by decide) (by decide) (by decide) (by decide) (by decide) (by decide) rfl
      · rw [if_pos (show i32 ((g.1.2 q).2.length : Int) = 40 by rw [q40]; rw [eq32 (by omega) (by omega) (by omega) (by omega)]; omega), if_neg (show ¬ (0 ≤ b ∧ (g.1.2 q).2.length < 40) by omega)]
        exact ra_ask hR rfl
  · rw [if_neg c1, if_neg c1, r_nayt, sb, if_pos rfl]
    exact ra_exc hR (show (1 : Nat) ≠ 0 by decide) rfl
theorem k10 {sx : Nat → Int32} {L : Nat} {i : Int32} {y : Nat → Int32} (hI : Inv s N g) (hN : N ≤ 900000) (hy : Sc5 sx L i y) : KOK h N (fK10 sx L (h + 0) (h + 308) (h + 339) i (M h s)) := by
  obtain ⟨y1, y2, y3, y4, y5⟩ := hy
  obtain ⟨a, ea, a1, a2⟩ := i32_ex (y 1)
  obtain ⟨b, eb, b1, b2⟩ := i32_ex (y 2)
  rw [ea] at y1
  rw [eb] at y2
  unfold fK10
  simp only [y1, y2, sb]
  obtain ⟨v1, v2⟩ := mkR_b hI.1.wf (a := a) (b := b)
  exact kstd (h := h) (oR := fun σ => fX12_make σ (h + 308) (i32 a) (i32 b)) hN (mkR_ok hI.2.2.1) v1 v2 (kc_make hI a1 a2 b1 b2) (fun s1 _ r1 => kr_make r1 a1 a2 b1 b2)
/-! take -/
def tkR (g : Gst) (a b d : Int) : Gst × Nat × Int := if (0 ≤ a ∧ a < 6) ∧ (0 ≤ b ∧ b < 6) ∧ 0 ≤ d ∧ d < (rch false g.1.1 (nowP g.1 b.toNat)).length then ((begP g.1 a.toNat (lnk (rch false g.1.1 (nowP g.1 b.toNat)) d.toNat).1, psh g.2.1 g.1, g.2.2), 0, ((lnk (rch false g.1.1 (nowP g.1 b.toNat)) d.toNat).1.length : Int)) else (g, 1, 0)
theorem tkR_b (hI : Inv s N g) {a b d : Int} : (tkR g a b d).2.1 ≤ 2 ∧ -2147483648 ≤ (tkR g a b d).2.2 ∧ (tkR g a b d).2.2 ≤ 2147483647 := by
  have hN := hI.2.2.2
  unfold tkR
  split
  · rename_i c
    obtain ⟨-, -, -, -, -, -, -, l8⟩ := rch_b hI.1 (by omega) false (nowP_Wk hI.1.wf (show b.toNat < 6 by omega))
    have := (l8 _ (lnk_mem (show d.toNat < _ by omega))).1
    simp only []
    omega
  · simp only []; omega
theorem tkR_ok (hk : okG g) {a b d : Int} : okG (tkR g a b d).1 := by
  unfold tkR
  split
  · exact hk
  · exact hk
theorem kc_take (hI : Inv s N g) {a b d : Int} (a1 : -2147483648 ≤ a) (a2 : a ≤ 2147483647) (b1 : -2147483648 ≤ b) (b2 : b ≤ 2147483647) (d1 : -2147483648 ≤ d) (d2 : d ≤ 2147483647) : CA h N g (tkR g a b d).1 (fL_take (M h s) (h + 0) (i32 a) (i32 b) (i32 d) (h + 339)) (tkR g a b d).2.1 (tkR g a b d).2.2 := by
  have hV := hI.1.wf
  have hN := hI.2.2.2
  have hb := (tkR_b hI (a := a) (b := b) (d := d)).2
  unfold fL_take
  unfold tkR at hb ⊢
  by_cases c1 : 0 ≤ a ∧ a < 6
  · by_cases c2 : 0 ≤ b ∧ b < 6
    · obtain ⟨q, rfl⟩ := nat_of c1.1
      obtain ⟨r, rfl⟩ := nat_of c2.1
      have hq : q < 6 := by omega
      have hr : r < 6 := by omega
      obtain ⟨s1, e1, f1, r1, k1⟩ := c_reach (h := h) (r := 260) (b := false) hI.1 (by omega) (Or.inl ⟨rfl, rfl⟩) (nowP_Wk hV hr)
      obtain ⟨⟨sl, m1⟩, -⟩ := id r1
      have hl := m1.2.2.2.1
      have hRV1 : RV s1 g := hI.2.1.cls f1 (by omega)
      simp only [tn0] at hb ⊢
      by_cases c3 : 0 ≤ d ∧ d < (rch false g.1.1 (nowP g.1 r)).length
      · rw [if_pos ⟨c1, c2, c3⟩] at hb ⊢
        obtain ⟨j, rfl⟩ := nat_of c3.1
        have hj : j < (rch false g.1.1 (nowP g.1 r)).length := by omega
        have hw : Wk g.1.1.1 (lnk (rch false g.1.1 (nowP g.1 r)) j).1 := m1.2.2.2.2.1 _ (lnk_mem hj)
        simp only [tn0] at hb ⊢
        obtain ⟨s2, e2, f2, k2⟩ := c_keepV (h := h) k1
        obtain ⟨s3, e3, f3, d3⟩ := c_begin (h := h) k2.1 hq hw
        have k3 : CV s3 N (begP g.1 q (lnk (rch false g.1.1 (nowP g.1 r)) j).1, psh g.2.1 g.1, g.2.2) := k2.put (f3.mono (by decide) (by decide)) d3 rfl
        have hn : nowP (begP g.1 q (lnk (rch false g.1.1 (nowP g.1 r)) j).1) q = (lnk (rch false g.1.1 (nowP g.1 r)) j).1 := nowP_beg
        have m2 : s2.2 261 j = i64 (cw (lnk (rch false g.1.1 (nowP g.1 r)) j).1 : Int) := by rw [f2.L 261 (by omega)]; exact m1.2.1 j hj
        refine lN0 hb ⟨s3, ?_, k3.mono (by omega), (hRV1.cls f2 (by omega)).cls f3 (by omega)⟩
        unfold fX11_take
        rw [c_needP a1 a2, sb, if_pos c1]
        simp only []
        rw [c_needP b1 b2, sb, if_pos c2]
        simp only []
        rw [g_0_10, sb, g_0_3, sb, g_2_2, sb, c_nowAt hI.1 hr, sb, o_260, sb, e1, sb, g_0_10, sb, g_260_4, sb, m1.1, c_needB d1 d2 (by omega) (by omega), sb, if_pos c3]
        simp only []
        rw [g_0_6, sb, g_0_3, sb, o_24, sb, e2, sb, g_0_3, sb, g_0_10, sb, g_260_2, sb, a_261 (by omega) (by omega), sb, tn0, m2, o_2, sb, e3, sb, g_0_3, sb, g_2_2, sb, c_nowAt k3 hq, sb]
        show ((fX10_length (i64 (cw (nowP (begP g.1 q (lnk (rch false g.1.1 (nowP g.1 r)) j).1) q) : Int))).bind fun w72 => some (Sum.inl w72, M h s3)) = _
        rw [hn, c_len (hw.ww hV.1.1.2), sb]
      · rw [if_neg (fun h9 => c3 h9.2.2)]
        refine lN1 ⟨s1, ?_, k1.mono (by omega), hRV1⟩
        unfold fX11_take
        rw [c_needP a1 a2, sb, if_pos c1]
        simp only []
        rw [c_needP b1 b2, sb, if_pos c2]
        simp only []
        rw [g_0_10, sb, g_0_3, sb, g_2_2, sb, c_nowAt hI.1 hr, sb, o_260, sb, e1, sb, g_0_10, sb, g_260_4, sb, m1.1, c_needB d1 d2 (by omega) (by omega), sb, if_neg c3]
    · rw [if_neg (fun h9 => c2 h9.2.1)]
      refine lN1 (hI.self ?_)
      unfold fX11_take
      rw [c_needP a1 a2, sb, if_pos c1]
      simp only []
      rw [c_needP b1 b2, sb, if_neg c2]
  · rw [if_neg (fun h9 => c1 h9.1)]
    refine lN1 (hI.self ?_)
    unfold fX11_take
    rw [c_needP a1 a2, sb, if_neg c1]
theorem kr_take (hR : RV s g) {a b d : Int} (a1 : -2147483648 ≤ a) (a2 : a ≤ 2147483647) (b1 : -2147483648 ≤ b) (b2 : b ≤ 2147483647) (d1 : -2147483648 ≤ d) (d2 : d ≤ 2147483647) : RA h s (tkR g a b d).1 (fX12_take (M h s) (h + 308) (i32 a) (i32 b) (i32 d)) (tkR g a b d).2.1 (tkR g a b d).2.2 := by
  have hV := hR.1.2.2
  have hR0 : RV (thr s 0) g := (rv_thr hR)
  obtain ⟨s1, e1, f1, q1'⟩ := r_isReached (h := h) hR0 b1 b2 d1 d2
  have hR1 : RV s1 g := hR0.rf f1 (by omega) (by decide) (by decide) (by decide) (by decide) (by decide)
  unfold fX12_take tkR
  rw [w_thr, sb, r_place6 a1 a2, sb]
  by_cases c1 : 0 ≤ a ∧ a < 6
  · rw [if_pos c1, if_neg n10, o_308, sb, e1, sb]
    by_cases c2 : (0 ≤ b ∧ b < 6) ∧ 0 ≤ d ∧ d < (rch false g.1.1 (nowP g.1 b.toNat)).length
    · simp only [if_pos c2]
      rw [if_neg n10, if_pos ⟨c1, c2.1, c2.2⟩]
      obtain ⟨q, rfl⟩ := nat_of c1.1
      obtain ⟨r, rfl⟩ := nat_of c2.1.1
      obtain ⟨j, rfl⟩ := nat_of c2.2.1
      have hq : q < 6 := by omega
      have rq := q1' c2.1
      simp only [tn0] at c2 rq ⊢
      have hj : j < (rch false g.1.1 (nowP g.1 r)).length := by omega
      have hl := rq.2.2.2.1
      have hw : Wk g.1.1.1 (lnk (rch false g.1.1 (nowP g.1 r)) j).1 := rq.2.2.2.2.1 _ (lnk_mem hj)
      obtain ⟨s2, e2, f2, r2, z2, z3, z4⟩ := r_keepV (h := h) hR1
      obtain ⟨f, e4, hX⟩ := r_puts (h := h) r2.1 hq hw
      have r3 : RV (mL s2 309 f) (begP g.1 q (lnk (rch false g.1.1 (nowP g.1 r)) j).1, psh g.2.1 g.1, g.2.2) := r2.put hX
      have m1 : s2.2 317 j = i64 (r6 (lnk (rch false g.1.1 (nowP g.1 r)) j).1 : Int) := by
        rw [z4 317 (by decide)]
        have := rq.2.1 j hj
        rw [Nat.mul_zero, Nat.zero_add] at this
        exact this
      unfold fJX12_take_m_27
      rw [o_308, sb, r_ok (f1.t0 (by decide)), sb, if_neg n10]
      simp only []
      rw [o_308, sb, e2, sb, g_308_25, sb, a_317 (by omega) (by omega), sb, tn0, m1, o_308, sb, e4, sb, g_308_25, sb, a_317 (by omega) (by omega), sb, tn0, mL_ne (by decide), m1, r_len (hw.ww hV.1.1.2), sb]
      refine ra_ans (((thr_fr (k := 0)).tr (f1.to (by omega))).tr (f2.tr put_fr)) r3 ?_ rfl
      show s2.1 308 0 = 0
      rw [z2 0 (by decide)]
      exact f1.t0 (by decide)
    · simp only [if_neg c2]
      rw [if_pos trivial, if_neg (fun h9 => c2 h9.2)]
      unfold fJX12_take_m_26 fJX12_take_m_27
      rw [o_308, sb, r_nay1 (f1.t0 (by decide)), sb, if_pos rfl]
      exact ra_excf hR f1 (by omega) (by decide) (by decide) (by decide) (by decide) (by decide) (by decide) (show (1 : Nat) ≠ 0 by decide) rfl
  · rw [if_neg c1, if_pos rfl, if_neg (fun h9 => c1 h9.1)]
    unfold fJX12_take_m_26 fJX12_take_m_27
    rw [o_308, sb, r_nayt, sb, if_pos rfl]
    exact ra_exc hR (show (1 : Nat) ≠ 0 by decide) rfl
theorem k13 {sx : Nat → Int32} {L : Nat} {i : Int32} {y : Nat → Int32} (hI : Inv s N g) (hN : N ≤ 900000) (hy : Sc5 sx L i y) : KOK h N (fK13 sx L (h + 0) (h + 308) (h + 339) i (M h s)) := by
  obtain ⟨y1, y2, y3, y4, y5⟩ := hy
  obtain ⟨a, ea, a1, a2⟩ := i32_ex (y 1)
  obtain ⟨b, eb, b1, b2⟩ := i32_ex (y 2)
  obtain ⟨d, ed, d1, d2⟩ := i32_ex (y 3)
  rw [ea] at y1
  rw [eb] at y2
  rw [ed] at y3
  unfold fK13
  simp only [y1, y2, y3, sb]
  obtain ⟨v1, v2⟩ := tkR_b hI (a := a) (b := b) (d := d)
  exact kstd (h := h) (oR := fun σ => fX12_take σ (h + 308) (i32 a) (i32 b) (i32 d)) hN (tkR_ok hI.2.2.1) v1 v2 (kc_take hI a1 a2 b1 b2 d1 d2) (fun s1 _ r1 => kr_take r1 a1 a2 b1 b2 d1 d2)
end MK
