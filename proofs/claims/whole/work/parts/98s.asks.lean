/-! CALLS that ask: letter, word, step, run, came -/
section AK
variable {h : Nat} {s s' : Mm} {g : Gst} {N : Nat}
theorem ra_excf {s2 : Mm} {k : Nat} {v : Int} {o : Option (Int32 × St)} {I L : List Nat} {lo hi : Nat} (hR : RV s g) (hf : Rf I L lo hi (thr s 0) s2) (hl : (313 ≤ lo ∧ hi ≤ 323) ∨ (325 ≤ lo ∧ hi ≤ 338) ∨ hi < lo) (h0 : 0 ∉ I) (h4 : 4 ∉ I) (h5 : 5 ∉ I) (h7 : 7 ∉ I) (h14 : 14 ∉ I) (h41 : 41 ∉ I) (hk : k ≠ 0) (e : o = some (0, M h (thr s2 k))) : RA h s g o k v :=
  ⟨0, thr s2 k, e, (thr_fr.tr (hf.to (by omega))).tr thr_fr, rv_thr ((rv_thr hR).rf hf hl h4 h5 h7 h14 h41), thr_0, fun h9 => absurd h9 hk⟩
theorem r_nay1 (h0 : s.1 308 0 = 0) : fX12_right (M h s) (h + 308) 0 1 = some (0, M h (thr s 1)) := r_no h0 (by decide)
theorem r_nayt : fX12_right (M h (thr s 0)) (h + 308) 0 1 = some (0, M h (thr s 1)) := by
  rw [show (1 : Int32) = i32 ((1 : Nat) : Int) from q1]
  exact r_nay (by decide) (by decide)
theorem Rf.t0 {I L : List Nat} {lo hi : Nat} (hf : Rf I L lo hi (thr s 0) s') (h0 : 0 ∉ I) : s'.1 308 0 = 0 := by rw [hf.2.1 0 h0]; exact thr_0
theorem in64 {a b c : Int} (a1 : -2147483648 ≤ a) (a2 : a ≤ 2147483647) (hb : -2147483648 ≤ b ∧ b ≤ 2147483647) (hc : -2147483648 ≤ c ∧ c ≤ 2147483647) : fX12_isIn (i32 a).toInt64 (i64 b) (i64 c) = some (if b ≤ a ∧ a ≤ c then 1 else 0) := by
  rw [toL a1 a2, r_isIn ⟨a1, a2⟩ hb hc]
/-! letter -/
def ltV (X : Snap) (a b : Int) : Nat × Int := if (0 ≤ a ∧ a < X.1.1) ∧ 0 ≤ b ∧ b ≤ 2 then (0, if b = 0 then (X.1.2.2.1 a.toNat : Int) else if b = 1 then (X.1.2.2.2 a.toNat : Int) else lsW X.1 a.toNat) else (1, 0)
theorem lsW_b {S : Sys} {x : Nat} : -1 ≤ lsW S x ∧ lsW S x ≤ 5 := by
  unfold lsW
  cases lsI S with
  | none =>
    simp only []
    omega
  | some i =>
    have := dg_b S.1 i x
    simp only []
    omega
theorem ltV_b (hV : VX g.1) {a b : Int} : (ltV g.1 a b).1 ≤ 2 ∧ -2147483648 ≤ (ltV g.1 a b).2 ∧ (ltV g.1 a b).2 ≤ 2147483647 := by
  unfold ltV
  have hK := hV.1.1.2
  split
  · rename_i c
    have b1 := hV.1.2.2.2.1 a.toNat (by omega)
    have b2 := hV.1.2.2.2.2.1 a.toNat (by omega)
    have b3 := lsW_b (S := g.1.1) (x := a.toNat)
    simp only []
    repeat' split
    all_goals omega
  · simp only []
    omega
theorem kc_letter (hI : Inv s N g) {a b : Int} (a1 : -2147483648 ≤ a) (a2 : a ≤ 2147483647) (b1 : -2147483648 ≤ b) (b2 : b ≤ 2147483647) : CA h N g g (fL_letter (M h s) (h + 0) (i32 a) (i32 b) (h + 339)) (ltV g.1 a b).1 (ltV g.1 a b).2 := by
  have hV := hI.1.wf
  have hK := hV.1.1.2
  have hN := hI.2.2.2
  have hb := (ltV_b hV (a := a) (b := b)).2
  unfold fL_letter
  unfold ltV at hb ⊢
  by_cases c1 : 0 ≤ a ∧ a < g.1.1.1
  · have hd : fX11_letter (M h s) (h + 0) (i32 a) (i32 b) = (match (if 0 ≤ b ∧ b ≤ 2 then Sum.inl () else Sum.inr xNSE : Unit ⊕ String) with
        | Sum.inl _ => if i32 b = 0 then some (Sum.inl (s.1 6 a.toNat), M h s) else (if i32 b = 1 then some (Sum.inl (s.1 7 a.toNat), M h s) else (fX8_leastOf (M h s) (h + 3) (i32 a)).bind fun w => some (Sum.inl w.1, w.2))
        | Sum.inr E => some (Sum.inr E, M h s)) := by
      unfold fX11_letter
      rw [if_neg (by rw [q0]; rw [lt32 (by omega) (by omega) (by omega) (by omega)]; omega), g_0_3, sb, g_2_0, sb, g_3_0, sb, hI.1.rs.1, if_pos (by rw [lt32 (by omega) (by omega) (by omega) (by omega)]; omega), show (2 : Int32) = i32 2 from by decide, c_needW b1 b2 (by omega) (by omega), sb]
      by_cases c2 : 0 ≤ b ∧ b ≤ 2
      · rw [if_pos c2]
        simp only [sb, g_0_3, g_2_0, g_3_4, g_3_5, o_3, a_6 (show 0 ≤ a by omega) (show a < 5 by omega), a_7 (show 0 ≤ a by omega) (show a < 5 by omega)]
      · rw [if_neg c2]
    by_cases c2 : 0 ≤ b ∧ b ≤ 2
    · rw [if_pos ⟨c1, c2⟩] at hb ⊢
      rw [hd, if_pos c2]
      simp only []
      obtain ⟨x, rfl⟩ := nat_of c1.1
      have hx : x < g.1.1.1 := by omega
      refine lN0 hb ?_
      simp only [tn0]
      rcases (show b = 0 ∨ b = 1 ∨ b = 2 by omega) with rfl | rfl | rfl
      · rw [if_pos (by decide), if_pos rfl]
        refine hI.self ?_
        rw [show s.1 6 x = _ from hI.1.rs.2.2.2.2.1 x (by omega)]
      · rw [if_neg (by decide), if_pos (by decide), if_neg (by decide), if_pos rfl]
        refine hI.self ?_
        rw [show s.1 7 x = _ from hI.1.rs.2.2.2.2.2 x hx]
      · rw [if_neg (by decide), if_neg (by decide), if_neg (by decide), if_neg (by decide)]
        obtain ⟨s1, e1, f1, f2, f3, f4, f5⟩ := c_leastOf (h := h) hV.1 hI.1.rs hx (hI.1.lu (by omega))
        obtain ⟨k1, k2⟩ := hI.1.lch f1 f2 f3 f4 f5
        refine ⟨s1, ?_, k1.mono (by omega), k2 hI.2.1⟩
        rw [e1, sb]
    · rw [if_neg (fun h9 => c2 h9.2)]
      refine lN1 (hI.self ?_)
      rw [hd, if_neg c2]
  · rw [if_neg (fun h9 => c1 h9.1)]
    refine lN1 (hI.self ?_)
    unfold fX11_letter
    by_cases c2 : a < 0
    · rw [if_pos (by rw [q0]; rw [lt32 (by omega) (by omega) (by omega) (by omega)]; omega)]
    · rw [if_neg (by rw [q0]; rw [lt32 (by omega) (by omega) (by omega) (by omega)]; omega), g_0_3, sb, g_2_0, sb, g_3_0, sb, hI.1.rs.1, if_neg (by rw [lt32 (by omega) (by omega) (by omega) (by omega)]; omega)]
theorem kr_letter (hR : RV s g) {a b : Int} (a1 : -2147483648 ≤ a) (a2 : a ≤ 2147483647) (b1 : -2147483648 ≤ b) (b2 : b ≤ 2147483647) : RA h s g (fX12_letter (M h s) (h + 308) (i32 a) (i32 b)) (ltV g.1 a b).1 (ltV g.1 a b).2 := by
  have hV := hR.1.2.2
  have hK := hV.1.1.2
  have hR0 : RV (thr s 0) g := (rv_thr hR)
  have hno : fJX12_letter_m_38 (M h (thr s 0)) (h + 308) (i32 a) (i32 b) (h + 308) = some (0, M h (thr s 1)) := by
    unfold fJX12_letter_m_38 fJX12_letter_m_39
    rw [o_308, sb, r_nayt, sb, if_pos rfl]
  unfold fX12_letter ltV
  rw [w_thr, sb, o_308, sb, r_letters hR0.row, sb, show (0 : Int64) = i64 0 from by decide, q1, s32, toL (show -2147483648 ≤ (g.1.1.1 : Int) - 1 by omega) (by omega), in64 a1 a2 (by omega) (by omega), sb]
  by_cases c1 : 0 ≤ a ∧ a < g.1.1.1
  · rw [if_pos (show (0 : Int) ≤ a ∧ a ≤ (g.1.1.1 : Int) - 1 by omega), if_neg n10, show (2 : Int64) = i64 2 from by decide, in64 b1 b2 (by omega) (by omega), sb]
    by_cases c2 : 0 ≤ b ∧ b ≤ 2
    · rw [if_pos c2, if_neg n10, if_pos ⟨c1, c2⟩]
      obtain ⟨x, rfl⟩ := nat_of c1.1
      have hx : x < g.1.1.1 := by omega
      unfold fJX12_letter_m_39
      rw [o_308, sb, ← q1, r_yes, sb, if_neg n10]
      simp only [tn0]
      rcases (show b = 0 ∨ b = 1 ∨ b = 2 by omega) with rfl | rfl | rfl
      · rw [if_pos (by decide), if_pos rfl, g_308_1, sb, show (2 : Int32) = i32 2 from by decide, a32, a_309 (by omega) (by omega), sb, show ((2 : Int) + (x : Int)).toNat = 2 + x by omega, hR0.row.2.2.1 x (by omega), toI]
        exact ra_ask hR rfl
      · rw [if_neg (by decide), if_pos (by decide), if_neg (by decide), if_pos rfl, o_308, sb, r_order hV.1 hR0.row hx, sb]
        exact ra_ask hR rfl
      · rw [if_neg (by decide), if_neg (by decide), if_neg (by decide), if_neg (by decide)]
        obtain ⟨f, e1, e2⟩ := r_leastW (h := h) hV.1 hR0.row
        have hf : Rf [] [] 320 320 (thr s 0) (mI (thr s 0) 320 f) := Rf.rf.mI (by decide) (by decide) (by decide)
        rw [o_308, sb]
        unfold lsW
        cases c3 : lsI g.1.1 with
        | none =>
          rw [c3] at e1
          have e1' : fX12_weighs_d6 (M h (thr s 0)) (h + 308) 0 = some (0, M h (mI (thr s 0) 320 f)) := e1
          rw [e1', sb, if_pos rfl]
          exact ra_rf hR hf (by omega) (by decide) (by decide) (by decide) (by decide) (by decide) (by decide) rfl
        | some r =>
          rw [c3] at e1
          have e1' : fX12_weighs_d6 (M h (thr s 0)) (h + 308) 0 = some (1, M h (mI (thr s 0) 320 f)) := e1
          rw [e1', sb, if_neg n10, g_308_35, sb, a_320 (by omega) (by omega), sb, mI_at, tn0, e2 r c3 x hx]
          exact ra_rf hR hf (by omega) (by decide) (by decide) (by decide) (by decide) (by decide) (by decide) rfl
    · rw [if_neg c2, if_pos rfl, if_neg (fun h9 => c2 h9.2), hno]
      exact ra_exc hR (by decide) rfl
  · rw [if_neg (show ¬ ((0 : Int) ≤ a ∧ a ≤ (g.1.1.1 : Int) - 1) by omega), if_pos rfl, if_neg (fun h9 => c1 h9.1), hno]
    exact ra_exc hR (by decide) rfl
theorem k5 {sx : Nat → Int32} {L : Nat} {i : Int32} {y : Nat → Int32} (hI : Inv s N g) (hN : N ≤ 900000) (hy : Sc5 sx L i y) : KOK h N (fK5 sx L (h + 0) (h + 308) (h + 339) i (M h s)) := by
  obtain ⟨y1, y2, y3, y4, y5⟩ := hy
  obtain ⟨a, ea, a1, a2⟩ := i32_ex (y 1)
  obtain ⟨b, eb, b1, b2⟩ := i32_ex (y 2)
  rw [ea] at y1
  rw [eb] at y2
  unfold fK5
  simp only [y1, y2, sb]
  obtain ⟨v1, v2⟩ := ltV_b hI.1.wf (a := a) (b := b)
  exact kstd (h := h) (oR := fun σ => fX12_letter σ (h + 308) (i32 a) (i32 b)) hN hI.2.2.1 v1 v2 (kc_letter hI a1 a2 b1 b2) (fun s1 _ r1 => kr_letter r1 a1 a2 b1 b2)
/-! step -/
def stV (X : Snap) (a b d : Int) : Nat × Int := if (0 ≤ a ∧ a < 6) ∧ 0 ≤ b ∧ 0 ≤ d ∧ d ≤ 1 then (match (stps X.1 (nowP X a.toNat))[b.toNat]? with
  | none => (1, 0)
  | some x => (0, if d = 0 then (x.1 : Int) else (x.2 : Int))) else (1, 0)
theorem stp_b (hV : VX g.1) {q k : Nat} (hq : q < 6) {x : Nat × Nat} (hx : (stps g.1.1 (nowP g.1 q))[k]? = some x) : okS g.1.1 (nowP g.1 q) x ∧ x.1 < 16 ∧ x.2 < 12 := by
  have h1 : okS g.1.1 (nowP g.1 q) x := mem_stps.1 (List.mem_of_getElem? hx)
  have h2 := (nowP_Wk hV hq).1
  have h3 := hV.1.2.1
  exact ⟨h1, by have := h1.1; omega, by have := h1.2.1; omega⟩
theorem stV_b (hV : VX g.1) {a b d : Int} : (stV g.1 a b d).1 ≤ 2 ∧ -2147483648 ≤ (stV g.1 a b d).2 ∧ (stV g.1 a b d).2 ≤ 2147483647 := by
  unfold stV
  split
  · rename_i c
    cases e : (stps g.1.1 (nowP g.1 a.toNat))[b.toNat]? with
    | none => simp only []; omega
    | some x =>
      have := stp_b hV (show a.toNat < 6 by omega) e
      simp only []
      split <;> omega
  · simp only []
    omega
theorem c_wh {x : Nat × Nat} (h1 : x.1 < 16) (h2 : x.2 < 12) : fX8_whereOf (i32 (cod x : Int)) = some (i32 (x.1 : Int)) := by
  unfold fX8_whereOf
  rw [show (4 : Int32) = i32 ((4 : Nat) : Int) from by decide, sar32 (by unfold cod; omega) (by decide)]
  have : cod x / 2 ^ 4 = x.1 := by unfold cod; omega
  rw [this]
theorem c_rl {x : Nat × Nat} (h2 : x.2 < 12) : fX8_ruleOf (i32 (cod x : Int)) = some (i32 (x.2 : Int)) := by
  unfold fX8_ruleOf
  rw [and15]
  have : cod x % 16 = x.2 := by unfold cod; omega
  rw [this]
theorem kc_step (hI : Inv s N g) {a b d : Int} (a1 : -2147483648 ≤ a) (a2 : a ≤ 2147483647) (b1 : -2147483648 ≤ b) (b2 : b ≤ 2147483647) (d1 : -2147483648 ≤ d) (d2 : d ≤ 2147483647) : CA h N g g (fL_step (M h s) (h + 0) (i32 a) (i32 b) (i32 d) (h + 339)) (stV g.1 a b d).1 (stV g.1 a b d).2 := by
  have hV := hI.1.wf
  have hb := (stV_b hV (a := a) (b := b) (d := d)).2
  unfold fL_step
  unfold stV at hb ⊢
  by_cases c1 : 0 ≤ a ∧ a < 6
  · by_cases c2 : 0 ≤ b
    · by_cases c3 : 0 ≤ d ∧ d ≤ 1
      · rw [if_pos ⟨c1, c2, c3⟩] at hb ⊢
        obtain ⟨q, rfl⟩ := nat_of c1.1
        obtain ⟨k, rfl⟩ := nat_of c2
        have hq : q < 6 := by omega
        have hW := (nowP_Wk hV hq).ww hV.1.1.2
        simp only [tn0] at hb ⊢
        have hd : fX11_step (M h s) (h + 0) (i32 (q : Int)) (i32 (k : Int)) (i32 d) = (if i32 (codO (stps g.1.1 (nowP g.1 q))[k]?) = -1 then some (Sum.inr xNSE, M h s) else (if i32 d = 0 then ((fX8_whereOf (i32 (codO (stps g.1.1 (nowP g.1 q))[k]?))).bind fun w => some (Sum.inl w, M h s)) else ((fX8_ruleOf (i32 (codO (stps g.1.1 (nowP g.1 q))[k]?))).bind fun w => some (Sum.inl w, M h s)))) := by
          unfold fX11_step
          rw [c_needP a1 a2, sb, if_pos c1]
          simp only []
          rw [c_needI b1 b2, sb, if_pos c2]
          simp only []
          rw [show (1 : Int32) = i32 1 from by decide, c_needW d1 d2 (by omega) (by omega), sb, if_pos c3]
          simp only [g_0_3, g_2_0, g_2_2, sb, o_3, c_nowAt hI.1 hq, c_stepCode hV.1 hI.1.rs hW (show k ≤ 2147483647 by omega)]
        rw [hd]
        cases e : (stps g.1.1 (nowP g.1 q))[k]? with
        | none =>
          rw [if_pos (by decide)]
          exact lN1 (hI.self rfl)
        | some x =>
          rw [e] at hb
          obtain ⟨x0, x1, x2⟩ := stp_b hV hq e
          have hc : cod x ≤ 255 := by unfold cod; omega
          have hne : ¬ i32 (codO (some x)) = -1 := by
            show ¬ i32 (cod x : Int) = -1
            rw [show (-1 : Int32) = i32 (-1) from by decide]; rw [eq32 (by omega) (by omega) (by omega) (by omega)]; omega
          rw [if_neg hne]
          refine lN0 hb (hI.self ?_)
          show (if i32 d = 0 then ((fX8_whereOf (i32 (cod x : Int))).bind fun w => some (Sum.inl w, M h s)) else ((fX8_ruleOf (i32 (cod x : Int))).bind fun w => some (Sum.inl w, M h s))) = _
          rw [c_wh x1 x2, sb, c_rl x2, sb]
          rcases (show d = 0 ∨ d = 1 by omega) with rfl | rfl
          · rw [if_pos (by decide)]; rfl
          · rw [if_neg (by decide)]; rfl
      · rw [if_neg (fun h9 => c3 h9.2.2)]
        refine lN1 (hI.self ?_)
        unfold fX11_step
        rw [c_needP a1 a2, sb, if_pos c1]
        simp only []
        rw [c_needI b1 b2, sb, if_pos c2]
        simp only []
        rw [show (1 : Int32) = i32 1 from by decide, c_needW d1 d2 (by omega) (by omega), sb, if_neg c3]
    · rw [if_neg (fun h9 => c2 h9.2.1)]
      refine lN1 (hI.self ?_)
      unfold fX11_step
      rw [c_needP a1 a2, sb, if_pos c1]
      simp only []
      rw [c_needI b1 b2, sb, if_neg c2]
  · rw [if_neg (fun h9 => c1 h9.1)]
    refine lN1 (hI.self ?_)
    unfold fX11_step
    rw [c_needP a1 a2, sb, if_neg c1]
theorem kr_step (hR : RV s g) {a b d : Int} (a1 : -2147483648 ≤ a) (a2 : a ≤ 2147483647) (b1 : -2147483648 ≤ b) (b2 : b ≤ 2147483647) (d1 : -2147483648 ≤ d) (d2 : d ≤ 2147483647) : RA h s g (fX12_step (M h s) (h + 308) (i32 a) (i32 b) (i32 d)) (stV g.1 a b d).1 (stV g.1 a b d).2 := by
  have hV := hR.1.2.2
  have hR0 : RV (thr s 0) g := (rv_thr hR)
  have hno : fJX12_step_m_31 (M h (thr s 0)) (h + 308) (i32 a) (i32 b) (i32 d) (h + 308) = some (0, M h (thr s 1)) := by
    unfold fJX12_step_m_31 fJX12_step_m_32
    rw [o_308, sb, r_nayt, sb, if_pos rfl]
  unfold fX12_step stV
  rw [w_thr, sb, r_place6 a1 a2, sb]
  by_cases c1 : 0 ≤ a ∧ a < 6
  · rw [if_pos c1, if_neg n10]
    by_cases c2 : 0 ≤ b
    · rw [if_neg (by rw [q0]; rw [lt32 (by omega) (by omega) (by omega) (by omega)]; omega), show (0 : Int64) = i64 0 from by decide, show (1 : Int64) = i64 1 from by decide, in64 d1 d2 (by omega) (by omega), sb]
      by_cases c3 : 0 ≤ d ∧ d ≤ 1
      · rw [if_pos c3, if_neg n10, if_pos ⟨c1, c2, c3⟩]
        obtain ⟨q, rfl⟩ := nat_of c1.1
        obtain ⟨k, rfl⟩ := nat_of c2
        have hq : q < 6 := by omega
        have hW := (nowP_Wk hV hq).ww hV.1.1.2
        simp only [tn0]
        unfold fJX12_step_m_32
        rw [o_308, sb, r_yes, sb, if_neg n10]
        simp only []
        rw [o_308, sb, r_wordAt hR0 hq, sb]
        obtain ⟨s1, bb, e1, f1, e2⟩ := r_finds (h := h) hV.1 hR0.row hW (k := (k : Int)) (by omega)
        rw [sb, e1, sb]
        simp only []
        rw [o_308, sb]
        rcases e2 with ⟨x, x1, x2, rfl, x3, x4, x5⟩ | ⟨x1, rfl, -⟩
        · rw [tn0] at x2
          rw [x2, r_ok (f1.t0 (by decide)), sb, if_neg n10]
          simp only []
          rcases (show d = 0 ∨ d = 1 by omega) with rfl | rfl
          · rw [if_pos (by decide), g_308_16, sb, x3]
            exact ra_rf hR f1 (by omega) (by decide) (by decide) (by decide) (by decide) (by decide) (by decide) rfl
          · rw [if_neg (by decide), g_308_17, sb, x4]
            exact ra_rf hR f1 (by omega) (by decide) (by decide) (by decide) (by decide) (by decide) (by decide) rfl
        · have x2 : (stps g.1.1 (nowP g.1 q))[k]? = none := by
            rcases x1 with x1 | x1
            · omega
            · rw [tn0] at x1; exact x1
          rw [x2, r_nay1 (f1.t0 (by decide)), sb, if_pos rfl]
          exact ra_excf hR f1 (by omega) (by decide) (by decide) (by decide) (by decide) (by decide) (by decide) (show (1 : Nat) ≠ 0 by decide) rfl
      · rw [if_neg c3, if_pos rfl, if_neg (fun h9 => c3 h9.2.2), hno]
        exact ra_exc hR (by decide) rfl
    · rw [if_pos (by rw [q0]; rw [lt32 (by omega) (by omega) (by omega) (by omega)]; omega), if_neg (fun h9 => c2 h9.2.1), hno]
      exact ra_exc hR (by decide) rfl
  · rw [if_neg c1, if_pos rfl, if_neg (fun h9 => c1 h9.1), hno]
    exact ra_exc hR (by decide) rfl
theorem k9 {sx : Nat → Int32} {L : Nat} {i : Int32} {y : Nat → Int32} (hI : Inv s N g) (hN : N ≤ 900000) (hy : Sc5 sx L i y) : KOK h N (fK9 sx L (h + 0) (h + 308) (h + 339) i (M h s)) := by
  obtain ⟨y1, y2, y3, y4, y5⟩ := hy
  obtain ⟨a, ea, a1, a2⟩ := i32_ex (y 1)
  obtain ⟨b, eb, b1, b2⟩ := i32_ex (y 2)
  obtain ⟨d, ed, d1, d2⟩ := i32_ex (y 3)
  rw [ea] at y1
  rw [eb] at y2
  rw [ed] at y3
  unfold fK9
  simp only [y1, y2, y3, sb]
  obtain ⟨v1, v2⟩ := stV_b hI.1.wf (a := a) (b := b) (d := d)
  exact kstd (h := h) (oR := fun σ => fX12_step σ (h + 308) (i32 a) (i32 b) (i32 d)) hN hI.2.2.1 v1 v2 (kc_step hI a1 a2 b1 b2 d1 d2) (fun s1 _ r1 => kr_step r1 a1 a2 b1 b2 d1 d2)
end AK
