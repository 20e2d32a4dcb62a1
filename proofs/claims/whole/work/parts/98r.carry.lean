/-! CALLS: what is carried through the caches -/
section CY
variable {h : Nat} {s s' : Mm} {g : Gst} {N : Nat}
theorem RCH.use {r ch : Nat} {b : Bool} {S : Sys} (hC : RCH s r b S ch) (h6 : s.1 3 6 = i32 (ch : Int)) (hn : ch ≤ 1000100) : s.1 r 9 = s.1 3 6 → ¬ s.1 r 4 = 0 → ∃ v, Wk S.1 v ∧ RFull b S s r v := by
  obtain ⟨-, -, c, h4, h5, h7⟩ := hC
  intro e
  rw [h5, h6, eq32 (by omega) (by omega) (by omega) (by omega)] at e
  exact h7 (by omega)
theorem RCH.new {r ch : Nat} {b : Bool} {S : Sys} {w : List Nat} (h6 : s.1 3 6 = i32 (ch : Int)) (hb : s'.1 r 1 = i32 (b32i b)) (hF : RFull b S s' r w) (hw : Wk S.1 w) (h9 : s'.1 r 9 = s.1 3 6) : RCH s' r b S ch := by
  obtain ⟨⟨sl, hRC⟩, _⟩ := id hF
  exact ⟨hb, ⟨_, hRC.1, hRC.2.2.2.1⟩, ch, Nat.le_refl _, by rw [h9, h6], fun _ _ => ⟨w, hw, hF⟩⟩
theorem CV.mid (hC : CV s N g) {lo hi : Nat} (hf : Fr lo hi s s') (hl : 253 ≤ lo ∧ hi ≤ 276) (hc : CCH s' N g.1.1) (ha : ∃ a b, AS s' a b) : CV s' N g := by
  obtain ⟨h1, h2, h3, h4, h5, h6, -, -⟩ := hC
  refine ⟨h1.fr hf (by omega), h2.fr hf (by omega), ?_, ?_, ?_, ?_, hc, ha⟩
  · unfold KPc at *
    cases hI : g.2.2.1 with
    | none => rw [hI] at h3; show s'.1 0 5 = 0; rw [hf.I 0 (by omega)]; exact h3
    | some Y => rw [hI] at h3; exact ⟨by rw [hf.I 0 (by omega)]; exact h3.1, h3.2.fr hf (by omega)⟩
  · unfold TPc at *
    rw [hf.I 0 (by omega), hf.I 1 (by omega)]; exact h4
  · rw [hf.I 0 (by omega)]; exact h5
  · unfold SDc at *
    rw [hf.I 0 (by omega), hf.I 307 (by omega)]; exact h6
theorem AS.fr {a b lo hi : Nat} (hA : AS s a b) (hf : Fr lo hi s s') (hl : ¬ (lo ≤ 272 ∧ 272 ≤ hi)) : AS s' a b := by
  unfold AS at *
  rw [hf.I 272 hl]; exact hA
theorem CV.rs (hC : CV s N g) : RS s 3 g.1.1 := hC.1.1
theorem CV.ws (hC : CV s N g) : WfS g.1.1 := hC.1.2.2.1
theorem c_reach {r : Nat} {b : Bool} (hC : CV s N g) (hN : N ≤ 1000100) (hr : (r = 260 ∧ b = false) ∨ (r = 264 ∧ b = false) ∨ (r = 268 ∧ b = true)) {w : List Nat} (hw : Wk g.1.1.1 w) : ∃ s', fX6_spread (M h s) (h + r) (i64 (cw w : Int)) = some (M h s') ∧ Fr r (r + 3) s s' ∧ RFull b g.1.1 s' r w ∧ CV s' N g := by
  obtain ⟨-, -, -, -, -, -, ⟨ch, k1, k2, k3, k4, k5, k6, k7⟩, a, d, h8⟩ := id hC
  have H : Hr r ∧ RCH s r b g.1.1 ch := by
    rcases hr with ⟨rfl, rfl⟩ | ⟨rfl, rfl⟩ | ⟨rfl, rfl⟩
    · exact ⟨hr1, k3⟩
    · exact ⟨hr2, k4⟩
    · exact ⟨hr3, k5⟩
  obtain ⟨s1, e1, f1, r1, r2, r3⟩ := c_spread (h := h) hC.ws hC.rs H.1 hw H.2.1 (H.2.use k2 (by omega)) H.2.2.1
  have hnew := RCH.new k2 r3 r1 hw r2
  refine ⟨s1, e1, f1, r1, hC.mid f1 (by omega) ⟨ch, k1, by rw [f1.I 3 (by omega)]; exact k2, ?_, ?_, ?_, k6.fr f1 (by omega), k7.fr f1 (by omega)⟩ ⟨a, d, h8.fr f1 (by omega)⟩⟩
  · rcases hr with ⟨rfl, rfl⟩ | ⟨rfl, rfl⟩ | ⟨rfl, rfl⟩
    · exact hnew
    · exact k3.fr f1 (by omega)
    · exact k3.fr f1 (by omega)
  · rcases hr with ⟨rfl, rfl⟩ | ⟨rfl, rfl⟩ | ⟨rfl, rfl⟩
    · exact k4.fr f1 (by omega)
    · exact hnew
    · exact k4.fr f1 (by omega)
  · rcases hr with ⟨rfl, rfl⟩ | ⟨rfl, rfl⟩ | ⟨rfl, rfl⟩
    · exact k5.fr f1 (by omega)
    · exact k5.fr f1 (by omega)
    · exact hnew
theorem CV.ou (hC : CV s N g) (hN : N ≤ 1000100) : s.1 256 6 = s.1 3 6 → OC s g.1.1 (ovs g.1.1) := by
  obtain ⟨-, -, -, -, -, -, ⟨ch, k1, k2, k3, k4, k5, ⟨c, c1, c2, c3⟩, k7⟩, a, d, h8⟩ := hC
  intro e
  rw [c2, k2, eq32 (by omega) (by omega) (by omega) (by omega)] at e
  exact c3 (by omega)
theorem CV.och (hC : CV s N g) (hf : Fr 253 259 s s') (hO : OC s' g.1.1 (ovs g.1.1)) (h6 : s'.1 256 6 = s.1 3 6) : CV s' N g := by
  obtain ⟨-, -, -, -, -, -, ⟨ch, k1, k2, k3, k4, k5, k6, k7⟩, a, d, h8⟩ := id hC
  exact hC.mid hf (by omega) ⟨ch, k1, by rw [hf.I 3 (by omega)]; exact k2, k3.fr hf (by omega), k4.fr hf (by omega), k5.fr hf (by omega), ⟨ch, Nat.le_refl _, by rw [h6, k2], fun _ => hO⟩, k7.fr hf (by omega)⟩ ⟨a, d, h8.fr hf (by omega)⟩
theorem CV.lu (hC : CV s N g) (hN : N ≤ 1000100) : s.1 3 8 = s.1 3 6 → LW g.1.1 (s.1 8) := by
  obtain ⟨-, -, -, -, -, -, ⟨ch, k1, k2, k3, k4, k5, k6, ⟨c, c1, c2, c3⟩⟩, a, d, h8⟩ := hC
  intro e
  rw [c2, k2, eq32 (by omega) (by omega) (by omega) (by omega)] at e
  exact c3 (by omega)
theorem CV.lch (hC : CV s N g) (h2 : s'.2 = s.2) (hi : ∀ i, i ≠ 3 → i ≠ 8 → s'.1 i = s.1 i) (h3 : ∀ j, j ≠ 8 → s'.1 3 j = s.1 3 j) (h6 : s'.1 3 8 = s.1 3 6) (hL : LW g.1.1 (s'.1 8)) : CV s' N g ∧ (RV s g → RV s' g) := by
  obtain ⟨⟨d1, d2, d3⟩, h2', h3', h4', h5', h6', ⟨ch, k1, k2, k3, k4, k5, k6, k7⟩, a, d, h8⟩ := id hC
  have hf : Fr 3 8 s s' := fun i h9 => ⟨hi i (by omega) (by omega), by rw [h2]⟩
  refine ⟨⟨⟨?_, ?_, d3⟩, h2'.fr hf (by omega), ?_, ?_, ?_, ?_, ⟨ch, k1, by rw [h3 6 (by decide)]; exact k2, k3.fr hf (by omega), k4.fr hf (by omega), k5.fr hf (by omega), k6.fr hf (by omega), ⟨ch, Nat.le_refl _, by rw [h6, k2], fun _ => hL⟩⟩, a, d, h8.fr hf (by omega)⟩, fun hR => hR.cls hf (by omega)⟩
  · unfold RS at *
    rw [h3 0 (by decide), h3 1 (by decide), h2, hi (2 + 1 + 3) (by decide) (by decide), hi (2 + 1 + 4) (by decide) (by decide)]
    exact d1
  · unfold PX at *
    rw [h2, hi (2 + 9) (by decide) (by decide), hi (2 + 10) (by decide) (by decide)]
    exact d2
  · unfold KPc at *
    cases hI : g.2.2.1 with
    | none => rw [hI] at h3'; show s'.1 0 5 = 0; rw [hf.I 0 (by omega)]; exact h3'
    | some Y => rw [hI] at h3'; exact ⟨by rw [hf.I 0 (by omega)]; exact h3'.1, h3'.2.fr hf (by omega)⟩
  · unfold TPc at *
    rw [hf.I 0 (by omega), hf.I 1 (by omega)]; exact h4'
  · rw [hf.I 0 (by omega)]; exact h5'
  · unfold SDc at *
    rw [hf.I 0 (by omega), hf.I 307 (by omega)]; exact h6'
/-- the reference's answer, with its working cells -/
theorem ra_rf {s2 : Mm} {v : Int} {o : Option (Int32 × St)} {I L : List Nat} {lo hi : Nat} (hR : RV s g) (hf : Rf I L lo hi (thr s 0) s2) (hl : (313 ≤ lo ∧ hi ≤ 323) ∨ (325 ≤ lo ∧ hi ≤ 338) ∨ hi < lo) (h0 : 0 ∉ I) (h4 : 4 ∉ I) (h5 : 5 ∉ I) (h7 : 7 ∉ I) (h14 : 14 ∉ I) (h41 : 41 ∉ I) (e : o = some (i32 v, M h s2)) : RA h s g o 0 v :=
  ra_ans (thr_fr.tr (hf.to (by omega))) ((rv_thr hR).rf hf hl h4 h5 h7 h14 h41) (by rw [hf.2.1 0 h0]; exact thr_0) e
/-! fault -/
theorem k2 {sx : Nat → Int32} {L : Nat} {i : Int32} (hI : Inv s N g) (hN : N ≤ 900000) : KOK h N (fK2 sx L (h + 0) (h + 308) (h + 339) i (M h s)) := by
  have e1 := hI.1.2.2.2.2.1
  have e2 := hI.2.1.2.2.2.2.1
  refine ⟨thr s 0, g, ?_, hI.1.mono (by omega) |>.work thr_fr (Or.inr (Or.inr (Or.inr (by decide)))), rv_thr hI.2.1, hI.2.2.1, by omega⟩
  unfold fK2 fX11_fault fX12_fault
  rw [o_0, sb, g_0_2, sb, sb, o_308, sb, w_thr, sb, g_308_14, sb, sb, thr_ne (by decide), e1, e2, if_pos rfl]
/-! count -/
def cntV (g : Gst) (a : Int) : Nat × Int := if 0 ≤ a ∧ a ≤ 6 then (0, if a = 0 then (g.1.1.1 : Int) else if a = 1 then (nr g.1.1 : Int) else if a = 2 then (g.2.1.length : Int) else if a = 3 then (g.2.2.2.1.length : Int) else if a = 4 then ((ovs g.1.1).length : Int) else if a = 5 then (opn g.1.1 : Int) else (flS g.1.1 : Int)) else (1, 0)
theorem opn_le {S : Sys} : opn S ≤ (ovs S).length := List.length_filter_le _ _
theorem cntV_b (hI : Inv s N g) {a : Int} : (cntV g a).1 ≤ 2 ∧ -2147483648 ≤ (cntV g a).2 ∧ (cntV g a).2 ≤ 2147483647 := by
  have hV := hI.1.wf
  have b1 := hV.1.1.2
  have b2 := hV.1.2.1
  obtain ⟨-, -, -, -, b3, -⟩ := hI.1.2.1
  have b4 := hI.2.2.1.1
  have b5 := ovs_len hV.1
  have b6 := opn_le (S := g.1.1)
  have b7 := flS_le (S := g.1.1)
  unfold cntV
  by_cases c : 0 ≤ a ∧ a ≤ 6
  · rw [if_pos c]
    simp only []
    repeat' split
    all_goals omega
  · rw [if_neg c]; simp only []; omega
theorem kc_count (hI : Inv s N g) {a : Int} (a1 : -2147483648 ≤ a) (a2 : a ≤ 2147483647) : CA h N g g (fL_count (M h s) (h + 0) (i32 a) (h + 339)) (cntV g a).1 (cntV g a).2 := by
  have hb := (cntV_b hI (a := a)).2
  have hN := hI.2.2.2
  unfold fL_count
  by_cases c : 0 ≤ a ∧ a ≤ 6
  · unfold cntV at hb ⊢
    rw [if_pos c] at hb ⊢
    refine lN0 hb ?_
    simp only []
    unfold fX11_count
    rcases (show a = 0 ∨ a = 1 ∨ a = 2 ∨ a = 3 ∨ a = 4 ∨ a = 5 ∨ a = 6 by omega) with rfl | rfl | rfl | rfl | rfl | rfl | rfl
    · rw [if_neg (by decide), if_pos (by decide)]
      refine hI.self ?_
      rw [g_0_3, sb, g_2_0, sb, g_3_0, sb, hI.1.rs.1]; rfl
    · rw [if_neg (by decide), if_neg (by decide), if_pos (by decide)]
      refine hI.self ?_
      rw [g_0_3, sb, g_2_0, sb, g_3_1, sb, hI.1.rs.2.1]; rfl
    · rw [if_neg (by decide), if_neg (by decide), if_neg (by decide), if_pos (by decide)]
      refine hI.self ?_
      obtain ⟨n, -, -, h9, -⟩ := hI.1.2.1
      rw [g_0_6, sb, g_24_2, sb, h9]; rfl
    · rw [if_neg (by decide), if_neg (by decide), if_neg (by decide), if_neg (by decide), if_pos (by decide)]
      refine hI.self ?_
      rw [g_0_1, sb, hI.1.2.2.2.1.1]; rfl
    · rw [if_neg (by decide), if_neg (by decide), if_neg (by decide), if_neg (by decide), if_neg (by decide), if_pos (by decide)]
      obtain ⟨s1, e1, f1, o1, o2⟩ := c_gather (h := h) hI.1.ws hI.1.rs (hI.1.ou (by omega))
      refine ⟨s1, ?_, (hI.1.och (f1.mono (by decide) (by decide)) o1 o2).mono (by omega), hI.2.1.cls f1 (by omega)⟩
      rw [g_0_9, sb, o_256, sb, e1, sb, g_0_9, sb, g_256_5, sb, o1.1]; rfl
    · rw [if_neg (by decide), if_neg (by decide), if_neg (by decide), if_neg (by decide), if_neg (by decide), if_neg (by decide), if_pos (by decide)]
      obtain ⟨s1, e1, f1, o1, o2⟩ := c_openOnes (h := h) hI.1.ws hI.1.rs (hI.1.ou (by omega))
      refine ⟨s1, ?_, (hI.1.och f1 o1 o2).mono (by omega), hI.2.1.cls f1 (by omega)⟩
      rw [g_0_9, sb, o_256, sb, e1, sb]; rfl
    · rw [if_neg (by decide), if_neg (by decide), if_neg (by decide), if_neg (by decide), if_neg (by decide), if_neg (by decide), if_neg (by decide), if_pos (by decide)]
      refine hI.self ?_
      rw [g_0_3, sb, g_2_0, sb, o_3, sb, c_falling hI.1.ws hI.1.rs, sb]; rfl
  · unfold cntV
    rw [if_neg c]
    refine lN1 (hI.self ?_)
    unfold fX11_count
    rw [if_pos (by rw [t32 a1 a2]; omega)]
theorem kr_count (hR : RV s g) {a : Int} (a1 : -2147483648 ≤ a) (a2 : a ≤ 2147483647) : RA h s g (fX12_count (M h s) (h + 308) (i32 a)) (cntV g a).1 (cntV g a).2 := by
  have hS := hR.1.2.2.1
  have hR0 : RV (thr s 0) g := (rv_thr hR)
  unfold fX12_count cntV
  rw [w_thr, sb, toL a1 a2, show (0 : Int64) = i64 0 from by decide, show (6 : Int64) = i64 6 from by decide, r_isIn (by omega) (by omega) (by omega), sb, o_308, sb]
  by_cases c : 0 ≤ a ∧ a ≤ 6
  · rw [if_pos c, if_pos c, r_yes, sb, if_neg n10]
    simp only []
    rcases (show a = 0 ∨ a = 1 ∨ a = 2 ∨ a = 3 ∨ a = 4 ∨ a = 5 ∨ a = 6 by omega) with rfl | rfl | rfl | rfl | rfl | rfl | rfl
    · rw [if_neg (by decide), if_pos (by decide), o_308, sb, r_letters hR0.row, sb]
      exact ra_ask hR rfl
    · rw [if_neg (by decide), if_neg (by decide), if_pos (by decide), o_308, sb, r_rules hR0.row, sb]
      exact ra_ask hR rfl
    · rw [if_neg (by decide), if_neg (by decide), if_neg (by decide), if_pos (by decide), g_308_5, sb, hR0.2.1.1]
      exact ra_ask hR rfl
    · rw [if_neg (by decide), if_neg (by decide), if_neg (by decide), if_neg (by decide), if_pos (by decide), g_308_7, sb, hR0.2.2.2.1.1]
      exact ra_ask hR rfl
    · obtain ⟨s1, e1, f1⟩ := r_many (h := h) hS hR0.row
      rw [if_neg (by decide), if_neg (by decide), if_neg (by decide), if_neg (by decide), if_neg (by decide), if_pos (by decide), o_308, sb, e1, sb]
      exact ra_rf hR f1 (by omega) (by decide) (by decide) (by decide) (by decide) (by decide) (by decide) rfl
    · obtain ⟨s1, e1, f1⟩ := r_unclosed (h := h) hS hR0.row
      rw [if_neg (by decide), if_neg (by decide), if_neg (by decide), if_neg (by decide), if_neg (by decide), if_neg (by decide), if_pos (by decide), o_308, sb, e1, sb]
      exact ra_rf hR f1 (by omega) (by decide) (by decide) (by decide) (by decide) (by decide) (by decide) rfl
    · rw [if_pos (by decide), o_308, sb, r_falling hS hR0.row, sb]
      exact ra_ask hR rfl
  · rw [if_neg c, if_neg c, show (1 : Int32) = i32 ((1 : Nat) : Int) from q1, r_nay (by decide) (by decide), sb, if_pos rfl]
    exact ra_exc hR (by decide) rfl
theorem k3 {sx : Nat → Int32} {L : Nat} {i : Int32} {y : Nat → Int32} (hI : Inv s N g) (hN : N ≤ 900000) (hy : Sc5 sx L i y) : KOK h N (fK3 sx L (h + 0) (h + 308) (h + 339) i (M h s)) := by
  obtain ⟨y1, y2, y3, y4, y5⟩ := hy
  obtain ⟨a, ea, a1, a2⟩ := i32_ex (y 1)
  rw [ea] at y1
  unfold fK3
  simp only [y1, sb]
  obtain ⟨v1, v2⟩ := cntV_b hI (a := a)
  exact kstd (h := h) (oR := fun σ => fX12_count σ (h + 308) (i32 a)) hN hI.2.2.1 v1 v2 (kc_count hI a1 a2) (fun s1 _ r1 => kr_count r1 a1 a2)
/-! side -/
def sdV (X : Snap) (t : Nat) (a b : Int) : Nat × Int := if (0 ≤ a ∧ a < nr X.1) ∧ 0 ≤ b then (0, ltr (if t = 0 then rl X.1 a.toNat else rr X.1 a.toNat) b.toNat) else (1, 0)
theorem sdV_b (hV : VX g.1) {t : Nat} {a b : Int} : (sdV g.1 t a b).1 ≤ 2 ∧ -2147483648 ≤ (sdV g.1 t a b).2 ∧ (sdV g.1 t a b).2 ≤ 2147483647 := by
  unfold sdV
  split
  · rename_i c
    obtain ⟨w1, w2, -⟩ := hV.1.2.2.1 a.toNat (by omega)
    have := ltr_b (w1.ww hV.1.1.2) b.toNat
    have := ltr_b (w2.ww hV.1.1.2) b.toNat
    simp only []
    split <;> omega
  · simp only []
    omega
theorem kc_side (hI : Inv s N g) {t : Nat} (ht : t ≤ 1) {a b : Int} (a1 : -2147483648 ≤ a) (a2 : a ≤ 2147483647) (b1 : -2147483648 ≤ b) (b2 : b ≤ 2147483647) : CA h N g g (fL_side (M h s) (h + 0) (i32 a) (i32 (t : Int)) (i32 b) (h + 339)) (sdV g.1 t a b).1 (sdV g.1 t a b).2 := by
  have hV := hI.1.wf
  have h12 := hV.1.2.1
  have hb := (sdV_b hV (t := t) (a := a) (b := b)).2
  unfold fL_side
  unfold sdV at hb ⊢
  by_cases c1 : 0 ≤ a ∧ a < nr g.1.1
  · by_cases c2 : 0 ≤ b
    · rw [if_pos ⟨c1, c2⟩] at hb ⊢
      refine lN0 hb (hI.self ?_)
      obtain ⟨q, rfl⟩ := nat_of c1.1
      obtain ⟨k, rfl⟩ := nat_of c2
      have hq : q < nr g.1.1 := by omega
      obtain ⟨w1, w2, -⟩ := hV.1.2.2.1 q hq
      have w1 := w1.ww hV.1.1.2
      have w2 := w2.ww hV.1.1.2
      simp only [tn0]
      have e1 : aL (M h s) (h + 4) (i32 (q : Int)) = some (i64 (cw (rl g.1.1 q) : Int)) := by rw [a_4 (by omega) (by omega), tn0]; exact congrArg some (hI.1.rs.2.2.1 q hq)
      have e2 : aL (M h s) (h + 5) (i32 (q : Int)) = some (i64 (cw (rr g.1.1 q) : Int)) := by rw [a_5 (by omega) (by omega), tn0]; exact congrArg some (hI.1.rs.2.2.2.1 q hq)
      unfold fX11_side
      rw [o_0, sb, c_needR hV.1 hI.1.rs a1 a2, sb, if_pos c1]
      simp only []
      rw [c_needI b1 b2, sb, if_pos c2]
      simp only []
      by_cases c3 : t = 0
      · rw [if_pos (by rw [z32 (by omega)]; exact c3), if_pos c3]
        simp only [g_0_3, g_2_0, g_3_2, sb, e1, c_let w1 (show k ≤ 2147483647 by omega)]
      · rw [if_neg (by rw [z32 (by omega)]; exact c3), if_neg c3]
        simp only [g_0_3, g_2_0, g_3_3, sb, e2, c_let w2 (show k ≤ 2147483647 by omega)]
    · rw [if_neg (fun h9 => c2 h9.2)]
      refine lN1 (hI.self ?_)
      unfold fX11_side
      rw [o_0, sb, c_needR hV.1 hI.1.rs a1 a2, sb, if_pos c1]
      simp only []
      rw [c_needI b1 b2, sb, if_neg c2]
  · rw [if_neg (fun h9 => c1 h9.1)]
    refine lN1 (hI.self ?_)
    unfold fX11_side
    rw [o_0, sb, c_needR hV.1 hI.1.rs a1 a2, sb, if_neg c1]
theorem kr_side (hR : RV s g) {t : Nat} (ht : t ≤ 1) {a b : Int} (a1 : -2147483648 ≤ a) (a2 : a ≤ 2147483647) (b1 : -2147483648 ≤ b) (b2 : b ≤ 2147483647) : RA h s g (fX12_side_ (M h s) (h + 308) (i32 a) (i32 (t : Int)) (i32 b)) (sdV g.1 t a b).1 (sdV g.1 t a b).2 := by
  have hV := hR.1.2.2
  have h12 := hV.1.2.1
  have hR0 : RV (thr s 0) g := (rv_thr hR)
  have hno : fJX12_side__m_22 (M h (thr s 0)) (h + 308) (i32 a) (i32 (t : Int)) (i32 b) (h + 308) = some (0, M h (thr s 1)) := by
    unfold fJX12_side__m_22 fJX12_side__m_23
    rw [o_308, sb, show (1 : Int32) = i32 ((1 : Nat) : Int) from q1, r_nay (by decide) (by decide), sb, if_pos rfl]
  have tail : ∀ (w : List Nat) (k : Nat), Ww w → k ≤ 2147483647 → fJX12_side__m_49 (M h (thr s 0)) (i32 (k : Int)) (i64 (r6 w : Int)) = some (i32 (ltr w k), M h (thr s 0)) := by
    intro w k hW hk
    have h16 := hW.1
    unfold fJX12_side__m_49
    rw [r_len hW, sb]
    by_cases c3 : k < w.length
    · rw [if_neg (by rw [le32 (by omega) (by omega) (by omega) (by omega)]; omega), r_let hW c3, sb]
    · rw [if_pos (by rw [le32 (by omega) (by omega) (by omega) (by omega)]; omega)]
      have : ltr w k = -1 := by unfold ltr; rw [List.getElem?_eq_none (by omega)]
      rw [this]; rfl
  unfold fX12_side_ sdV
  rw [w_thr, sb, o_308, sb, r_isRule hV.1 hR0.row a1 a2, sb]
  by_cases c1 : 0 ≤ a ∧ a < nr g.1.1
  · rw [if_pos c1, if_neg n10]
    by_cases c2 : 0 ≤ b
    · rw [if_neg (by rw [q0]; rw [lt32 (by omega) (by omega) (by omega) (by omega)]; omega), if_pos ⟨c1, c2⟩]
      obtain ⟨q, rfl⟩ := nat_of c1.1
      obtain ⟨k, rfl⟩ := nat_of c2
      have hq : q < nr g.1.1 := by omega
      obtain ⟨w1, w2, -⟩ := hV.1.2.2.1 q hq
      unfold fJX12_side__m_23
      rw [o_308, sb, r_yes, sb, if_neg n10]
      simp only [tn0, o_308, sb]
      by_cases c3 : t = 0
      · rw [if_pos (by rw [z32 (by omega)]; exact c3), if_pos c3, r_left hV.1 hR0.row hq, sb, tail _ _ (w1.ww hV.1.1.2) (by omega)]
        exact ra_ask hR rfl
      · rw [if_neg (by rw [z32 (by omega)]; exact c3), if_neg c3, r_right hV.1 hR0.row hq, sb, tail _ _ (w2.ww hV.1.1.2) (by omega)]
        exact ra_ask hR rfl
    · rw [if_pos (by rw [q0]; rw [lt32 (by omega) (by omega) (by omega) (by omega)]; omega), if_neg (fun h9 => c2 h9.2), hno]
      exact ra_exc hR (by decide) rfl
  · rw [if_neg c1, if_pos rfl, if_neg (fun h9 => c1 h9.1), hno]
    exact ra_exc hR (by decide) rfl
theorem k4 {sx : Nat → Int32} {L : Nat} {i : Int32} {y : Nat → Int32} (hI : Inv s N g) (hN : N ≤ 900000) (hy : Sc5 sx L i y) : KOK h N (fK4 sx L (h + 0) (h + 308) (h + 339) i (M h s)) := by
  obtain ⟨y1, y2, y3, y4, y5⟩ := hy
  obtain ⟨a, ea, a1, a2⟩ := i32_ex (y 1)
  obtain ⟨b, eb, b1, b2⟩ := i32_ex (y 3)
  rw [ea] at y1
  rw [eb] at y3
  unfold fK4
  simp only [y1, y2, y3, sb]
  by_cases c : y 2 = 0
  · simp only [if_pos c]
    obtain ⟨v1, v2⟩ := sdV_b hI.1.wf (t := 0) (a := a) (b := b)
    exact kstd (h := h) (oR := fun σ => fX12_side_ σ (h + 308) (i32 a) 0 (i32 b)) hN hI.2.2.1 v1 v2 (kc_side hI (t := 0) (by decide) a1 a2 b1 b2) (fun s1 _ r1 => kr_side r1 (t := 0) (by decide) a1 a2 b1 b2)
  · simp only [if_neg c]
    obtain ⟨v1, v2⟩ := sdV_b hI.1.wf (t := 1) (a := a) (b := b)
    exact kstd (h := h) (oR := fun σ => fX12_side_ σ (h + 308) (i32 a) 1 (i32 b)) hN hI.2.2.1 v1 v2 (kc_side hI (t := 1) (by decide) a1 a2 b1 b2) (fun s1 _ r1 => kr_side r1 (t := 1) (by decide) a1 a2 b1 b2)
end CY
