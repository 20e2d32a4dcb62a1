/-! CALLS that ask: meet, overlap, made, canon, areOne -/
section DW
variable {h : Nat} {s s' : Mm} {g g' : Gst} {N : Nat}
/-- a number as the program holds it -/
def cl (v : Int) : Int := (i32 v).toInt
theorem cl_b (v : Int) : -2147483648 ≤ cl v ∧ cl v ≤ 2147483647 := by
  unfold cl
  have h1 := Int32.le_toInt (i32 v)
  have h2 := Int32.toInt_lt (i32 v)
  omega
theorem i32_cl (v : Int) : i32 (cl v) = i32 v := by
  unfold cl
  have := Int32.ofInt_toInt (i32 v)
  exact this
/-! meet -/
def mtF (A B : RLs) : Option Nat := (List.range A.length).find? (fun j => decide (¬ plc B (lnk A j).1 = -1))
def mtV (X : Snap) (a b d : Int) : Nat × Int := if (0 ≤ a ∧ a < 6) ∧ (0 ≤ b ∧ b < 6) ∧ 0 ≤ d ∧ d ≤ 1 then (0, match mtF (rch false X.1 (nowP X a.toNat)) (rch false X.1 (nowP X b.toNat)) with
  | some j => if d = 0 then (j : Int) else plc (rch false X.1 (nowP X b.toNat)) (lnk (rch false X.1 (nowP X a.toNat)) j).1
  | none => -1) else (1, 0)
theorem mtV_b (hI : Inv s N g) {a b d : Int} : (mtV g.1 a b d).1 ≤ 2 ∧ -2147483648 ≤ (mtV g.1 a b d).2 ∧ (mtV g.1 a b d).2 ≤ 2147483647 := by
  have hN := hI.2.2.2
  unfold mtV
  split
  · rename_i c
    obtain ⟨l1, -⟩ := rch_b hI.1 (by omega) false (nowP_Wk hI.1.wf (show a.toNat < 6 by omega))
    obtain ⟨l2, -⟩ := rch_b hI.1 (by omega) false (nowP_Wk hI.1.wf (show b.toNat < 6 by omega))
    simp only []
    cases e : mtF (rch false g.1.1 (nowP g.1 a.toNat)) (rch false g.1.1 (nowP g.1 b.toNat)) with
    | none => simp only []; omega
    | some j =>
      unfold mtF at e
      have hj : j < (rch false g.1.1 (nowP g.1 a.toNat)).length := List.mem_range.1 (List.mem_of_find?_eq_some e)
      have hp := plc_b (L := rch false g.1.1 (nowP g.1 b.toNat)) (w := (lnk (rch false g.1.1 (nowP g.1 a.toNat)) j).1)
      simp only []
      split <;> omega
  · simp only []
    omega
theorem kc_meet (hI : Inv s N g) {a b d : Int} (a1 : -2147483648 ≤ a) (a2 : a ≤ 2147483647) (b1 : -2147483648 ≤ b) (b2 : b ≤ 2147483647) (d1 : -2147483648 ≤ d) (d2 : d ≤ 2147483647) : CA h N g g (fL_meet (M h s) (h + 0) (i32 a) (i32 b) (i32 d) (h + 339)) (mtV g.1 a b d).1 (mtV g.1 a b d).2 := by
  have hV := hI.1.wf
  have hN := hI.2.2.2
  have hb := (mtV_b hI (a := a) (b := b) (d := d)).2
  unfold fL_meet
  unfold mtV at hb ⊢
  by_cases c1 : 0 ≤ a ∧ a < 6
  · by_cases c2 : 0 ≤ b ∧ b < 6
    · by_cases c3 : 0 ≤ d ∧ d ≤ 1
      · rw [if_pos ⟨c1, c2, c3⟩] at hb ⊢
        obtain ⟨q, rfl⟩ := nat_of c1.1
        obtain ⟨r, rfl⟩ := nat_of c2.1
        have hq : q < 6 := by omega
        have hr : r < 6 := by omega
        obtain ⟨s1, e1, f1, r1, k1⟩ := c_reach (h := h) (r := 260) (b := false) hI.1 (by omega) (Or.inl ⟨rfl, rfl⟩) (nowP_Wk hV hq)
        obtain ⟨s2, e2, f2, r2, k2⟩ := c_reach (h := h) (r := 264) (b := false) k1 (by omega) (Or.inr (Or.inl ⟨rfl, rfl⟩)) (nowP_Wk hV hr)
        have r1' := r1.fr f2 (by omega)
        obtain ⟨⟨sl, m1⟩, -⟩ := id r1'
        obtain ⟨⟨sm, m2⟩, -⟩ := id r2
        obtain ⟨A, eA⟩ : ∃ A, A = rch false g.1.1 (nowP g.1 q) := ⟨_, rfl⟩
        obtain ⟨B, eB⟩ : ∃ B, B = rch false g.1.1 (nowP g.1 r) := ⟨_, rfl⟩
        simp only [tn0] at hb ⊢
        rw [← eA, ← eB] at hb ⊢
        rw [← eA] at m1
        rw [← eB] at m2
        have hl1 := m1.2.2.2.1
        have hl2 := m2.2.2.2.1
        have hloop : iterP (fLX11_meet_48 (M h s2) (h + 0) (i32 d)) 0 = some (match mtF A B with | some k => Sum.inl (i32 (k : Int), i32 (plc B (lnk A k).1)) | none => Sum.inr ()) := by
          refine loop_find (fun j => decide (¬ plc B (lnk A j).1 = -1)) (fun k => i32 (k : Int)) (Sum.inr ()) (fun k => Sum.inl (i32 (k : Int), i32 (plc B (lnk A k).1))) A.length (fun k hk => ?_) ?_ rfl
          · have hp := plc_b (L := B) (w := (lnk A k).1)
            have hf : fX6_find (M h s2) (h + 264) (i64 (cw (lnk A k).1 : Int)) = some (i32 (plc B (lnk A k).1)) := c_find hr2 hV.1.1.2 m2 (m1.2.2.2.2.1 _ (lnk_mem hk))
            unfold fLX11_meet_48
            rw [g_0_10, sb, g_260_4, sb, m1.1, if_neg (by rw [le32 (by omega) (by omega) (by omega) (by omega)]; omega), g_0_11, sb, sb, g_260_2, sb, a_261 (by omega) (by omega), sb, tn0, show s2.2 261 k = _ from m1.2.1 k hk, o_264, sb, hf, sb]
            by_cases c4 : plc B (lnk A k).1 = -1
            · rw [if_pos (by rw [c4]; rfl), if_neg (by rw [decide_eq_true_eq]; exact fun h9 => h9 c4), xlet_eq, q1, a32]
              rfl
            · rw [if_neg (by rw [show (-1 : Int32) = i32 (-1) from by decide]; rw [eq32 (by omega) (by omega) (by omega) (by omega)]; omega), if_pos (by rw [decide_eq_true_eq]; exact c4)]
          · unfold fLX11_meet_48
            rw [g_0_10, sb, g_260_4, sb, m1.1, if_pos (by rw [le32 (by omega) (by omega) (by omega) (by omega)]; omega)]
        refine lN0 hb ⟨s2, ?_, k2.mono (by omega), (hI.2.1.cls f1 (by omega)).cls f2 (by omega)⟩
        unfold fX11_meet
        rw [c_needP a1 a2, sb, if_pos c1]
        simp only []
        rw [c_needP b1 b2, sb, if_pos c2]
        simp only []
        rw [show (1 : Int32) = i32 1 from by decide, c_needW d1 d2 (by omega) (by omega), sb, if_pos c3]
        simp only []
        rw [g_0_10, sb, g_0_3, sb, g_2_2, sb, c_nowAt hI.1 hq, sb, o_260, sb, e1, sb, g_0_11, sb, g_0_3, sb, g_2_2, sb, c_nowAt k1 hr, sb, o_264, sb, e2, sb, hloop, sb]
        cases mtF A B with
        | none => rfl
        | some j =>
          simp only []
          rcases (show d = 0 ∨ d = 1 by omega) with rfl | rfl
          · rw [if_pos (by decide)]; rfl
          · rw [if_neg (by decide)]; rfl
      · rw [if_neg (fun h9 => c3 h9.2.2)]
        refine lN1 (hI.self ?_)
        unfold fX11_meet
        rw [c_needP a1 a2, sb, if_pos c1]
        simp only []
        rw [c_needP b1 b2, sb, if_pos c2]
        simp only []
        rw [show (1 : Int32) = i32 1 from by decide, c_needW d1 d2 (by omega) (by omega), sb, if_neg c3]
    · rw [if_neg (fun h9 => c2 h9.2.1)]
      refine lN1 (hI.self ?_)
      unfold fX11_meet
      rw [c_needP a1 a2, sb, if_pos c1]
      simp only []
      rw [c_needP b1 b2, sb, if_neg c2]
  · rw [if_neg (fun h9 => c1 h9.1)]
    refine lN1 (hI.self ?_)
    unfold fX11_meet
    rw [c_needP a1 a2, sb, if_neg c1]
theorem RQ.keep {K : Nat} {L : RLs} (hQ : RQ s 0 K L) (hf : RqF 1 s s') : RQ s' 0 K L := by
  obtain ⟨q1, q2, q3, q4, q5, q6⟩ := hQ
  refine ⟨by rw [hf.2.2 0 (by decide)]; exact q1, fun j hj => ?_, fun j hj => ?_, q4, q5, q6⟩
  · rw [(hf.2.1 (200 * 0 + j) (by omega)).1]; exact q2 j hj
  · rw [(hf.2.1 (200 * 0 + j) (by omega)).2]; exact q3 j hj
theorem kr_meet (hR : RV s g) {a b d : Int} (a1 : -2147483648 ≤ a) (a2 : a ≤ 2147483647) (b1 : -2147483648 ≤ b) (b2 : b ≤ 2147483647) (d1 : -2147483648 ≤ d) (d2 : d ≤ 2147483647) : RA h s g (fX12_meet (M h s) (h + 308) (i32 a) (i32 b) (i32 d)) (mtV g.1 a b d).1 (mtV g.1 a b d).2 := by
  have hV := hR.1.2.2
  have hR0 : RV (thr s 0) g := (rv_thr hR)
  have hno : fJX12_meet_m_34 (M h (thr s 0)) (h + 308) (i32 a) (i32 b) (i32 d) (h + 308) = some (0, M h (thr s 1)) := by
    unfold fJX12_meet_m_34 fJX12_meet_m_35
    rw [o_308, sb, r_nayt, sb, if_pos rfl]
  unfold fX12_meet mtV
  rw [w_thr, sb, r_place6 a1 a2, sb]
  by_cases c1 : 0 ≤ a ∧ a < 6
  · rw [if_pos c1, if_neg n10, r_place6 b1 b2, sb]
    by_cases c2 : 0 ≤ b ∧ b < 6
    · rw [if_pos c2, if_neg n10, show (0 : Int64) = i64 0 from by decide, show (1 : Int64) = i64 1 from by decide, in64 d1 d2 (by omega) (by omega), sb]
      by_cases c3 : 0 ≤ d ∧ d ≤ 1
      · rw [if_pos c3, if_neg n10, if_pos ⟨c1, c2, c3⟩]
        obtain ⟨q, rfl⟩ := nat_of c1.1
        obtain ⟨r, rfl⟩ := nat_of c2.1
        have hq : q < 6 := by omega
        have hr : r < 6 := by omega
        simp only [tn0]
        obtain ⟨s1, e1, f1, q1'⟩ := r_laysReach (h := h) (u := 0) hV.1 hR0.row (by decide) (nowP_Wk hV hq)
        have hR1 : RV s1 g := hR0.rf f1.1 (by omega) (by decide) (by decide) (by decide) (by decide) (by decide)
        obtain ⟨s2, e2, f2, q2'⟩ := r_laysReach (h := h) (u := 1) hV.1 hR1.row (by decide) (nowP_Wk hV hr)
        have q1'' := q1'.keep f2
        obtain ⟨A, eA⟩ : ∃ A, A = rch false g.1.1 (nowP g.1 q) := ⟨_, rfl⟩
        obtain ⟨B, eB⟩ : ∃ B, B = rch false g.1.1 (nowP g.1 r) := ⟨_, rfl⟩
        rw [← eA, ← eB]
        rw [← eA] at q1''
        rw [← eB] at q2'
        have hl1 := q1''.2.2.2.1
        have hl2 := q2'.2.2.2.1
        have hloop : iterP (fLX12_meet_67 (M h s2) (h + 308) (i32 d)) 0 = some (match mtF A B with | some k => Sum.inl (i32 (k : Int), i32 (plc B (lnk A k).1)) | none => Sum.inr ()) := by
          refine loop_find (fun j => decide (¬ plc B (lnk A j).1 = -1)) (fun k => i32 (k : Int)) (Sum.inr ()) (fun k => Sum.inl (i32 (k : Int), i32 (plc B (lnk A k).1))) A.length (fun k hk => ?_) ?_ rfl
          · have hp := plc_b (L := B) (w := (lnk A k).1)
            unfold fLX12_meet_67
            rw [g_308_27, sb, q0, a_319 (by decide) (by decide), sb, show s2.1 319 (0 : Int).toNat = _ from q1''.1, if_neg (by rw [le32 (by omega) (by omega) (by omega) (by omega)]; omega), g_308_25, sb, q317 q1'' hk, sb, o_308, sb, show (1 : Int32) = i32 ((1 : Nat) : Int) from q1, r_place hV.1.1.2 (by decide) q2' ((q1''.2.2.2.2.1 _ (lnk_mem hk)).ww hV.1.1.2), sb]
            by_cases c4 : plc B (lnk A k).1 = -1
            · rw [if_pos (by rw [c4]; rfl), if_neg (by rw [decide_eq_true_eq]; exact fun h9 => h9 c4), xlet_eq, a32]
              rfl
            · rw [if_neg (by rw [show (-i32 ((1 : Nat) : Int)) = i32 (-1) from by decide]; rw [eq32 (by omega) (by omega) (by omega) (by omega)]; omega), if_pos (by rw [decide_eq_true_eq]; exact c4)]
          · unfold fLX12_meet_67
            rw [g_308_27, sb, q0, a_319 (by decide) (by decide), sb, show s2.1 319 (0 : Int).toNat = _ from q1''.1, if_pos (by rw [le32 (by omega) (by omega) (by omega) (by omega)]; omega)]
        have e1' : fX12_laysReach (M h (thr s 0)) (h + 308) 0 (i64 (r6 (nowP g.1 q) : Int)) = some (M h s1) := e1
        have e2' : fX12_laysReach (M h s1) (h + 308) 1 (i64 (r6 (nowP g.1 r) : Int)) = some (M h s2) := e2
        have hf : Rf [16, 17, 19] [18] 317 319 (thr s 0) s2 := f1.1.tr f2.1
        unfold fJX12_meet_m_35
        rw [o_308, sb, r_yes, sb, if_neg n10]
        simp only []
        rw [o_308, sb, r_wordAt hR0 hq, sb, sb, e1', sb, o_308, sb, r_wordAt hR1 hr, sb, sb, e2', sb, hloop, sb]
        cases mtF A B with
        | none => exact ra_rf hR hf (by omega) (by decide) (by decide) (by decide) (by decide) (by decide) (by decide) rfl
        | some j =>
          simp only []
          rcases (show d = 0 ∨ d = 1 by omega) with rfl | rfl
          · rw [if_pos (by decide)]
            exact ra_rf hR hf (by omega) (by decide) (by decide) (by decide) (by decide) (by decide) (by decide) rfl
          · rw [if_neg (by decide)]
            exact ra_rf hR hf (by omega) (by decide) (by decide) (by decide) (by decide) (by decide) (by decide) rfl
      · rw [if_neg c3, if_pos rfl, if_neg (fun h9 => c3 h9.2.2), hno]
        exact ra_exc hR (by decide) rfl
    · rw [if_neg c2, if_pos rfl, if_neg (fun h9 => c2 h9.2.1), hno]
      exact ra_exc hR (by decide) rfl
  · rw [if_neg c1, if_pos rfl, if_neg (fun h9 => c1 h9.1), hno]
    exact ra_exc hR (by decide) rfl
theorem k15 {sx : Nat → Int32} {L : Nat} {i : Int32} {y : Nat → Int32} (hI : Inv s N g) (hN : N ≤ 900000) (hy : Sc5 sx L i y) : KOK h N (fK15 sx L (h + 0) (h + 308) (h + 339) i (M h s)) := by
  obtain ⟨y1, y2, y3, y4, y5⟩ := hy
  obtain ⟨a, ea, a1, a2⟩ := i32_ex (y 1)
  obtain ⟨b, eb, b1, b2⟩ := i32_ex (y 2)
  obtain ⟨d, ed, d1, d2⟩ := i32_ex (y 3)
  rw [ea] at y1
  rw [eb] at y2
  rw [ed] at y3
  unfold fK15
  simp only [y1, y2, y3, sb]
  obtain ⟨v1, v2⟩ := mtV_b hI (a := a) (b := b) (d := d)
  exact kstd (h := h) (oR := fun σ => fX12_meet σ (h + 308) (i32 a) (i32 b) (i32 d)) hN hI.2.2.1 v1 v2 (kc_meet hI a1 a2 b1 b2 d1 d2) (fun s1 _ r1 => kr_meet r1 a1 a2 b1 b2 d1 d2)
/-! overlap -/
def ovA (S : Sys) (b : Int) (o : Ov) : Int := if b = 0 then (o.1 : Int) else if b = 1 then (o.2.1 : Int) else if b = 2 then (o.2.2.1 : Int) else if b = 3 then (o.2.2.2.length : Int) else (if end1 S o = end2 S o then 1 else 0)
def ovV (S : Sys) (a b : Int) : Nat × Int := if (0 ≤ a ∧ a < (ovs S).length) ∧ 0 ≤ b ∧ b ≤ 4 then (0, cl (ovA S b (ovd (ovs S) a.toNat))) else (1, 0)
theorem ovV_b {S : Sys} {a b : Int} : (ovV S a b).1 ≤ 2 ∧ -2147483648 ≤ (ovV S a b).2 ∧ (ovV S a b).2 ≤ 2147483647 := by
  unfold ovV
  split
  · exact ⟨by simp only []; omega, cl_b _⟩
  · simp only []; omega
theorem okO_ww {S : Sys} (hS : WfS S) {o : Ov} (ho : okO S o) : Ww o.2.2.2 := (lay_ok hS ho.1 ho.2.1 ho.2.2.1 ho.2.2.2).1.ww hS.1.2
theorem kc_overlap (hI : Inv s N g) {a b : Int} (a1 : -2147483648 ≤ a) (a2 : a ≤ 2147483647) (b1 : -2147483648 ≤ b) (b2 : b ≤ 2147483647) : CA h N g g (fL_overlap (M h s) (h + 0) (i32 a) (i32 b) (h + 339)) (ovV g.1.1 a b).1 (ovV g.1.1 a b).2 := by
  have hV := hI.1.wf
  have hN := hI.2.2.2
  have hb := (ovV_b (S := g.1.1) (a := a) (b := b)).2
  unfold fL_overlap
  unfold ovV at hb ⊢
  by_cases c2 : 0 ≤ b ∧ b ≤ 4
  · obtain ⟨s1, e1, f1, o1, o2⟩ := c_gather (h := h) hV.1 hI.1.rs (hI.1.ou (by omega))
    have k1 : CV s1 N g := hI.1.och (f1.mono (by decide) (by decide)) o1 o2
    have r1 : RV s1 g := hI.2.1.cls f1 (by omega)
    have hl := o1.2.1
    by_cases c1 : 0 ≤ a ∧ a < (ovs g.1.1).length
    · rw [if_pos ⟨c1, c2⟩] at hb ⊢
      obtain ⟨k, rfl⟩ := nat_of c1.1
      have hk : k < (ovs g.1.1).length := by omega
      refine lN0 hb ?_
      simp only [tn0]
      rw [i32_cl]
      unfold fX11_overlap
      rw [show (4 : Int32) = i32 4 from by decide, c_needW b1 b2 (by omega) (by omega), sb, if_pos c2]
      simp only []
      rw [g_0_9, sb, o_256, sb, e1, sb, g_0_9, sb, g_256_5, sb, o1.1, c_needB a1 a2 (by omega) (by omega), sb, if_pos c1]
      simp only []
      rcases (show b = 0 ∨ b = 1 ∨ b = 2 ∨ b = 3 ∨ b = 4 by omega) with rfl | rfl | rfl | rfl | rfl
      · refine ⟨s1, ?_, k1.mono (by omega), r1⟩
        rw [if_neg (by decide), if_pos (by decide), g_0_9, sb, o_256, sb, c_first hV.1 o1 hk, sb]; rfl
      · refine ⟨s1, ?_, k1.mono (by omega), r1⟩
        rw [if_neg (by decide), if_neg (by decide), if_pos (by decide), g_0_9, sb, o_256, sb, c_second hV.1 o1 hk, sb]; rfl
      · refine ⟨s1, ?_, k1.mono (by omega), r1⟩
        rw [if_neg (by decide), if_neg (by decide), if_neg (by decide), if_pos (by decide), g_0_9, sb, o_256, sb, c_shift hV.1 o1 hk, sb]; rfl
      · refine ⟨s1, ?_, k1.mono (by omega), r1⟩
        have hw : Ww (ovd (ovs g.1.1) k).2.2.2 := okO_ww hV.1 (o1.2.2.1 _ (getD_mem hk))
        rw [if_neg (by decide), if_neg (by decide), if_neg (by decide), if_neg (by decide), if_pos (by decide), g_0_9, sb, g_256_2, sb, a_257 (by omega) (by omega), sb, tn0, o1.2.2.2.1 k hk, c_len hw, sb]; rfl
      · obtain ⟨s2, e2, f2, o3, o4⟩ := c_isClosed (h := h) hV.1 k1.rs o1 hk
        have e36 : s1.1 256 6 = s1.1 3 6 := by rw [o2, f1.I 3 (by omega)]
        refine ⟨s2, ?_, (k1.och f2 o3 (o4.trans e36)).mono (by omega), r1.cls f2 (by omega)⟩
        rw [if_pos (by decide), g_0_9, sb, o_256, sb, e2, sb]
        show _ = some (Sum.inl (i32 (if end1 g.1.1 (ovd (ovs g.1.1) k) = end2 g.1.1 (ovd (ovs g.1.1) k) then 1 else 0)), M h s2)
        by_cases c5 : end1 g.1.1 (ovd (ovs g.1.1) k) = end2 g.1.1 (ovd (ovs g.1.1) k)
        · simp only [if_pos c5]; rfl
        · simp only [if_neg c5]; rfl
    · rw [if_neg (fun h9 => c1 h9.1)]
      refine lN1 ⟨s1, ?_, k1.mono (by omega), r1⟩
      unfold fX11_overlap
      rw [show (4 : Int32) = i32 4 from by decide, c_needW b1 b2 (by omega) (by omega), sb, if_pos c2]
      simp only []
      rw [g_0_9, sb, o_256, sb, e1, sb, g_0_9, sb, g_256_5, sb, o1.1, c_needB a1 a2 (by omega) (by omega), sb, if_neg c1]
  · rw [if_neg (fun h9 => c2 h9.2)]
    refine lN1 (hI.self ?_)
    unfold fX11_overlap
    rw [show (4 : Int32) = i32 4 from by decide, c_needW b1 b2 (by omega) (by omega), sb, if_neg c2]
theorem kr_overlap (hR : RV s g) {a b : Int} (a1 : -2147483648 ≤ a) (a2 : a ≤ 2147483647) (b1 : -2147483648 ≤ b) (b2 : b ≤ 2147483647) (hO : ∀ o ∈ ovs g.1.1, okO g.1.1 o) : RA h s g (fX12_overlap (M h s) (h + 308) (i32 a) (i32 b)) (ovV g.1.1 a b).1 (ovV g.1.1 a b).2 := by
  have hV := hR.1.2.2
  have hR0 : RV (thr s 0) g := (rv_thr hR)
  have hno : fJX12_overlap_m_26 (M h (thr s 0)) (h + 308) (i32 a) (i32 b) (h + 308) = some (0, M h (thr s 1)) := by
    unfold fJX12_overlap_m_26 fJX12_overlap_m_27
    rw [o_308, sb, r_nayt, sb, if_pos rfl]
  unfold fX12_overlap ovV
  rw [w_thr, sb]
  by_cases c0 : a < 0
  · rw [if_pos (by rw [q0]; rw [lt32 (by omega) (by omega) (by omega) (by omega)]; omega), if_neg (fun h9 => by omega), hno]
    exact ra_exc hR (by decide) rfl
  · rw [if_neg (by rw [q0]; rw [lt32 (by omega) (by omega) (by omega) (by omega)]; omega), show (0 : Int64) = i64 0 from by decide, show (4 : Int64) = i64 4 from by decide, in64 b1 b2 (by omega) (by omega), sb]
    by_cases c2 : 0 ≤ b ∧ b ≤ 4
    · rw [if_pos c2, if_neg n10]
      obtain ⟨k, rfl⟩ := nat_of (show 0 ≤ a by omega)
      obtain ⟨s1, bb, e1, f1, e2⟩ := r_overlaps (h := h) hV.1 hR0.row (k := (k : Int)) (by omega)
      have hR1 : RV s1 g := hR0.rf f1 (by omega) (by decide) (by decide) (by decide) (by decide) (by decide)
      unfold fJX12_overlap_m_27
      rw [o_308, sb, r_yes, sb, if_neg n10]
      simp only [tn0]
      rw [o_308, sb, e1, sb]
      simp only []
      rw [o_308, sb]
      rcases e2 with ⟨o, -, x2, rfl, x3⟩ | ⟨x1, rfl, -⟩
      · rw [tn0] at x2
        have hk : k < (ovs g.1.1).length := (List.getElem?_eq_some_iff.1 x2).1
        have ho : ovd (ovs g.1.1) k = o := by
          unfold ovd
          rw [List.getD_eq_getElem?_getD, x2]; rfl
        have hoO : okO g.1.1 o := hO o (List.mem_of_getElem? x2)
        rw [r_ok (f1.t0 (by decide)), sb, if_neg n10, if_pos (show ((0 : Int) ≤ (k : Int) ∧ (k : Int) < ((ovs g.1.1).length : Int)) ∧ 0 ≤ b ∧ b ≤ 4 by omega), ho]
        simp only []
        rcases (show b = 0 ∨ b = 1 ∨ b = 2 ∨ b = 3 ∨ b = 4 by omega) with rfl | rfl | rfl | rfl | rfl
        · rw [if_neg (by decide), if_pos (by decide), g_308_28, sb, x3.1]
          exact ra_rf hR f1 (by omega) (by decide) (by decide) (by decide) (by decide) (by decide) (by decide) (by rw [i32_cl]; rfl)
        · rw [if_neg (by decide), if_neg (by decide), if_pos (by decide), g_308_29, sb, x3.2.1]
          exact ra_rf hR f1 (by omega) (by decide) (by decide) (by decide) (by decide) (by decide) (by decide) (by rw [i32_cl]; rfl)
        · rw [if_neg (by decide), if_neg (by decide), if_neg (by decide), g_308_30, sb, x3.2.2.1]
          exact ra_rf hR f1 (by omega) (by decide) (by decide) (by decide) (by decide) (by decide) (by decide) (by rw [i32_cl]; rfl)
        · rw [if_pos (by decide), if_pos (by decide), g_308_31, sb, x3.2.2.2, r_len (okO_ww hV.1 hoO), sb]
          exact ra_rf hR f1 (by omega) (by decide) (by decide) (by decide) (by decide) (by decide) (by decide) (by rw [i32_cl]; rfl)
        · obtain ⟨s2, e3, f2, -⟩ := r_closes (h := h) hV.1 hR1.row hoO x3
          rw [if_pos (by decide), if_neg (by decide), o_308, sb, e3, sb]
          have hf : RO2 (thr s 0) s2 := (RO.to2 f1).tr f2
          rw [show ovA g.1.1 4 o = (if end1 g.1.1 o = end2 g.1.1 o then 1 else 0) from rfl]
          by_cases c5 : end1 g.1.1 o = end2 g.1.1 o
          · simp only [if_pos c5]
            rw [if_neg n10]
            exact ra_rf hR hf (by omega) (by decide) (by decide) (by decide) (by decide) (by decide) (by decide) (by rw [i32_cl]; rfl)
          · simp only [if_neg c5]
            rw [if_pos trivial]
            exact ra_rf hR hf (by omega) (by decide) (by decide) (by decide) (by decide) (by decide) (by decide) (by rw [i32_cl]; rfl)
      · have x2 : (ovs g.1.1)[k]? = none := by
          rcases x1 with x1 | x1
          · omega
          · rw [tn0] at x1; exact x1
        have := List.getElem?_eq_none_iff.1 x2
        rw [r_nay1 (f1.t0 (by decide)), sb, if_pos rfl, if_neg (fun h9 => by omega)]
        exact ra_excf hR f1 (by omega) (by decide) (by decide) (by decide) (by decide) (by decide) (by decide) (show (1 : Nat) ≠ 0 by decide) rfl
    · rw [if_neg c2, if_pos rfl, if_neg (fun h9 => c2 h9.2), hno]
      exact ra_exc hR (by decide) rfl
theorem k18 {sx : Nat → Int32} {L : Nat} {i : Int32} {y : Nat → Int32} (hI : Inv s N g) (hN : N ≤ 900000) (hy : Sc5 sx L i y) : KOK h N (fK18 sx L (h + 0) (h + 308) (h + 339) i (M h s)) := by
  obtain ⟨y1, y2, y3, y4, y5⟩ := hy
  obtain ⟨a, ea, a1, a2⟩ := i32_ex (y 1)
  obtain ⟨b, eb, b1, b2⟩ := i32_ex (y 2)
  rw [ea] at y1
  rw [eb] at y2
  unfold fK18
  simp only [y1, y2, sb]
  obtain ⟨v1, v2⟩ := ovV_b (S := g.1.1) (a := a) (b := b)
  exact kstd (h := h) (oR := fun σ => fX12_overlap σ (h + 308) (i32 a) (i32 b)) hN hI.2.2.1 v1 v2 (kc_overlap hI a1 a2 b1 b2) (fun s1 _ r1 => kr_overlap r1 a1 a2 b1 b2 (fun o ho => mem_ovs ho))
end DW
