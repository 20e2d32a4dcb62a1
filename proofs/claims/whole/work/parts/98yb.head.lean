/-! CALLS that ask: head -/
section HE
variable {h : Nat} {s s' : Mm} {g g' : Gst} {N : Nat}
def hdT (t : Nat) (l r : List Nat) : List Nat := if t = 0 then (hd l r).take l.length else (hd l r).drop l.length
def hdV (S : Sys) (t : Nat) (a b : Int) : Nat × Int := if (0 ≤ a ∧ a < nr S) ∧ 0 ≤ b then (0, ltr (hdT t (rl S a.toNat) (rr S a.toNat)) b.toNat) else (1, 0)
theorem hdT_ww {t : Nat} {l r : List Nat} (hl : Ww l) (hr : Ww r) : Ww (hdT t l r) := by
  unfold hdT
  split
  · exact (hd_ww hl hr).1
  · exact (hd_ww hl hr).2.1
theorem hdV_b {S : Sys} (hS : WfS S) {t : Nat} {a b : Int} : (hdV S t a b).1 ≤ 2 ∧ -2147483648 ≤ (hdV S t a b).2 ∧ (hdV S t a b).2 ≤ 2147483647 := by
  unfold hdV
  split
  · rename_i c
    obtain ⟨w1, w2, -⟩ := hS.2.2.1 a.toNat (by omega)
    have := ltr_b (hdT_ww (t := t) (w1.ww hS.1.2) (w2.ww hS.1.2)) b.toNat
    simp only []
    omega
  · simp only []
    omega
theorem kc_head (hI : Inv s N g) {t : Nat} (ht : t ≤ 1) {a b : Int} (a1 : -2147483648 ≤ a) (a2 : a ≤ 2147483647) (b1 : -2147483648 ≤ b) (b2 : b ≤ 2147483647) : CA h N g g (fL_head (M h s) (h + 0) (i32 a) (i32 (t : Int)) (i32 b) (h + 339)) (hdV g.1.1 t a b).1 (hdV g.1.1 t a b).2 := by
  have hV := hI.1.wf
  have hb := (hdV_b hV.1 (t := t) (a := a) (b := b)).2
  unfold fL_head
  unfold hdV at hb ⊢
  by_cases c1 : 0 ≤ a ∧ a < nr g.1.1
  · by_cases c2 : 0 ≤ b
    · rw [if_pos ⟨c1, c2⟩] at hb ⊢
      obtain ⟨q, rfl⟩ := nat_of c1.1
      obtain ⟨k, rfl⟩ := nat_of c2
      have hq : q < nr g.1.1 := by omega
      have wq1 := (hV.1.2.2.1 q hq).1.ww hV.1.1.2
      have wq2 := (hV.1.2.2.1 q hq).2.1.ww hV.1.1.2
      obtain ⟨s1, e1, d1, f1⟩ := c_findOf (h := h) (s := s) hc1 wq1 wq2
      have k1 : CV s1 N g := hI.1.work f1 (by omega)
      refine lN0 hb ⟨s1, ?_, k1.mono (by omega), hI.2.1.cls f1 (by omega)⟩
      simp only [tn0]
      unfold fX11_head
      rw [o_0, sb, c_needR hV.1 hI.1.rs a1 a2, sb, if_pos c1]
      simp only []
      rw [c_needI b1 b2, sb, if_pos c2]
      simp only []
      rw [g_0_14, sb, g_0_3, sb, g_2_0, sb, g_3_2, sb, c_rlAt hI.1 hq, sb, sb, g_2_0, sb, g_3_3, sb, c_rrAt hI.1 hq, sb, o_277, sb, e1, sb]
      unfold hdT
      by_cases c3 : t = 0
      · rw [if_pos (by rw [z32 (by omega)]; exact c3), if_pos c3, g_0_14, sb, g_277_2, sb, d1.1, c_let (hd_ww wq1 wq2).1 (show k ≤ 2147483647 by omega), sb]
      · rw [if_neg (by rw [z32 (by omega)]; exact c3), if_neg c3, g_0_14, sb, g_277_3, sb, d1.2, c_let (hd_ww wq1 wq2).2.1 (show k ≤ 2147483647 by omega), sb]
    · rw [if_neg (fun h9 => c2 h9.2)]
      refine lN1 (hI.self ?_)
      unfold fX11_head
      rw [o_0, sb, c_needR hV.1 hI.1.rs a1 a2, sb, if_pos c1]
      simp only []
      rw [c_needI b1 b2, sb, if_neg c2]
  · rw [if_neg (fun h9 => c1 h9.1)]
    refine lN1 (hI.self ?_)
    unfold fX11_head
    rw [o_0, sb, c_needR hV.1 hI.1.rs a1 a2, sb, if_neg c1]
theorem ltr_hdT {t : Nat} {l r : List Nat} (hl : Ww l) (hr : Ww r) {k : Nat} : ltr (hdT t l r) k = if k < (if t = 0 then l.length else r.length) then (((hd l r).getD ((if t = 0 then 0 else l.length) + k) 0 : Nat) : Int) else -1 := by
  obtain ⟨-, -, h3, h4⟩ := hd_ww hl hr
  by_cases c : t = 0
  · have e : hdT t l r = (hd l r).take l.length := by unfold hdT; rw [if_pos c]
    rw [e, if_pos c, if_pos c]
    by_cases c2 : k < l.length
    · rw [if_pos c2, ltr_of (by rw [h3]; exact c2), Nat.zero_add, List.getD_eq_getElem?_getD, List.getD_eq_getElem?_getD, List.getElem?_take_of_lt c2]
    · rw [if_neg c2]
      unfold ltr
      rw [List.getElem?_eq_none (by rw [h3]; omega)]
  · have e : hdT t l r = (hd l r).drop l.length := by unfold hdT; rw [if_neg c]
    rw [e, if_neg c, if_neg c]
    by_cases c2 : k < r.length
    · rw [if_pos c2, ltr_of (by rw [h4]; exact c2), List.getD_eq_getElem?_getD, List.getD_eq_getElem?_getD, List.getElem?_drop]
    · rw [if_neg c2]
      unfold ltr
      rw [List.getElem?_eq_none (by rw [h4]; omega)]
theorem kr_head (hR : RV s g) {t : Nat} (ht : t ≤ 1) {a b : Int} (a1 : -2147483648 ≤ a) (a2 : a ≤ 2147483647) (b1 : -2147483648 ≤ b) (b2 : b ≤ 2147483647) : RA h s g (fX12_head (M h s) (h + 308) (i32 a) (i32 (t : Int)) (i32 b)) (hdV g.1.1 t a b).1 (hdV g.1.1 t a b).2 := by
  have hV := hR.1.2.2
  have hR0 : RV (thr s 0) g := (rv_thr hR)
  have hno : fJX12_head_m_22 (M h (thr s 0)) (h + 308) (i32 a) (i32 (t : Int)) (i32 b) (h + 308) = some (0, M h (thr s 1)) := by
    unfold fJX12_head_m_22 fJX12_head_m_23
    rw [o_308, sb, r_nayt, sb, if_pos rfl]
  unfold fX12_head hdV
  rw [w_thr, sb, o_308, sb, r_isRule hV.1 hR0.row a1 a2, sb]
  by_cases c1 : 0 ≤ a ∧ a < nr g.1.1
  · rw [if_pos c1, if_neg n10]
    by_cases c2 : 0 ≤ b
    · rw [if_neg (by rw [q0]; rw [lt32 (by omega) (by omega) (by omega) (by omega)]; omega), if_pos ⟨c1, c2⟩]
      obtain ⟨q, rfl⟩ := nat_of c1.1
      obtain ⟨k, rfl⟩ := nat_of c2
      have hq : q < nr g.1.1 := by omega
      have wq1 := (hV.1.2.2.1 q hq).1.ww hV.1.1.2
      have wq2 := (hV.1.2.2.1 q hq).2.1.ww hV.1.1.2
      obtain ⟨l, el⟩ : ∃ l, l = rl g.1.1 q := ⟨_, rfl⟩
      obtain ⟨r, er⟩ : ∃ r, r = rr g.1.1 q := ⟨_, rfl⟩
      have hl16 := wq1.1
      have hr16 := wq2.1
      obtain ⟨s1, e1, n1, f1⟩ := r_laysHead (h := h) hV.1 hR0.row (Or.inl rfl) hq false
      have hrow1 : RR (s1.2 309) g.1.1 := by rw [f1.2.1]; exact hR0.row
      obtain ⟨s2, e2, n2, f2⟩ := r_laysHead (h := h) hV.1 hrow1 (Or.inr rfl) hq true
      have e1' : fX12_laysHead (M h (thr s 0)) (h + 308) (h + 322) (i32 (q : Int)) 0 = some (M h s1) := e1
      have e2' : fX12_laysHead (M h s1) (h + 308) (h + 323) (i32 (q : Int)) 1 = some (M h s2) := e2
      have hf : Rf [39] [] 321 323 (thr s 0) s2 := by
        refine ⟨fun i h1 h2 => ⟨?_, by rw [f2.2.1, f1.2.1]⟩, fun j hj => ?_, fun j hj => by rw [f2.2.1, f1.2.1]⟩
        · rw [f2.1 i h1 (by omega) (by omega), f1.1 i h1 (by omega) (by omega)]
        · have : j ≠ 39 := fun h9 => hj (by rw [h9]; decide)
          rw [f2.2.2 j this, f1.2.2 j this]
      have hR2 : RV s2 g := hR0.rf hf (by omega) (by decide) (by decide) (by decide) (by decide) (by decide)
      have w1 : tnd false (rl g.1.1 q) ++ tnd false (rr g.1.1 q) = l ++ r := by rw [el, er]; rfl
      have w2 : tnd true (rl g.1.1 q) ++ tnd true (rr g.1.1 q) = rv l r := by rw [el, er]; rfl
      rw [w1] at n1
      rw [w2] at n2
      rw [← el] at wq1 hl16
      rw [← er] at wq2 hr16
      have lA := hA_len l r
      have lB := hB_len l r
      have lrv : (rv l r).length = l.length + r.length := by unfold rv; rw [List.length_append, List.length_reverse, List.length_reverse]
      have pA : ∀ j, j < l.length + r.length → s2.1 322 j = i32 (((hA l r).getD j 0 : Nat) : Int) := fun j hj => by
        rw [f2.1 322 (by decide) (by decide) (by decide)]
        exact n1.2.2 j (by rw [List.length_append]; exact hj)
      have pB : ∀ j, j < l.length + r.length → s2.1 323 j = i32 (((hB l r).getD j 0 : Nat) : Int) := fun j hj => n2.2.2 j (by rw [lrv]; exact hj)
      have pN : s2.1 308 39 = i32 ((l.length + r.length : Nat) : Int) := by rw [n2.2.1, lrv]
      have b5 : ∀ x ∈ l ++ r, x < 5 := fun x hx => by
        rcases List.mem_append.1 hx with hx | hx
        · exact wq1.2 x hx
        · exact wq2.2 x hx
      have b5' : ∀ x ∈ rv l r, x < 5 := fun x hx => by
        unfold rv at hx
        rcases List.mem_append.1 hx with hx | hx
        · exact wq1.2 x (List.mem_reverse.1 hx)
        · exact wq2.2 x (List.mem_reverse.1 hx)
      have vA : ∀ j, j < l.length + r.length → (hA l r).getD j 0 < 5 := fun j hj => cnn_5 b5 _ (getD_mem (by rw [cnn_len, List.length_append]; exact hj))
      have vB : ∀ j, j < l.length + r.length → (hB l r).getD j 0 < 5 := fun j hj => cnn_5 b5' _ (getD_mem (by rw [cnn_len, lrv]; exact hj))
      obtain ⟨z, ez⟩ : ∃ z : Nat, z = (match fdx (hA l r) (hB l r) with | some k => k | none => l.length + r.length) := ⟨_, rfl⟩
      have hloop : iterP (fLX12_head_55 (M h s2) (h + 308) (i32 (q : Int)) (i32 (t : Int)) (i32 (k : Int))) 0 = some (i32 (z : Int)) := by
        have := loop_find (F := fLX12_head_55 (M h s2) (h + 308) (i32 (q : Int)) (i32 (t : Int)) (i32 (k : Int))) (fun k => decide (¬ (hA l r).getD k 0 = (hB l r).getD k 0)) (fun k => i32 (k : Int)) (i32 ((l.length + r.length : Nat) : Int)) (fun k => i32 (k : Int)) (l.length + r.length) (fun j hj => ?_) ?_ (x := 0) rfl
        · rw [this, ez]
          unfold fdx
          rw [lA]
          cases (List.range (l.length + r.length)).find? (fun k => decide (¬ (hA l r).getD k 0 = (hB l r).getD k 0)) with
          | none => rfl
          | some _ => rfl
        · have a5 := vA j hj
          have a6 := vB j hj
          unfold fLX12_head_55
          rw [g_308_39, sb, pN, if_neg (by rw [le32 (by omega) (by omega) (by omega) (by omega)]; omega), g_308_37, sb, a_322 (by omega) (by omega), sb, g_308_38, sb, a_323 (by omega) (by omega), sb, tn0, pA j hj, pB j hj]
          by_cases c3 : (hA l r).getD j 0 = (hB l r).getD j 0
          · rw [if_pos (by rw [c3]), if_neg (by rw [decide_eq_true_eq]; exact fun h9 => h9 c3), xlet_eq, q1, a32]
            rfl
          · rw [if_neg (by rw [eq32 (by omega) (by omega) (by omega) (by omega)]; omega), if_pos (by rw [decide_eq_true_eq]; exact c3)]
        · unfold fLX12_head_55
          rw [g_308_39, sb, pN, if_pos (by rw [le32 (by omega) (by omega) (by omega) (by omega)]; omega)]
      have zb : z ≤ l.length + r.length := by
        rw [ez]
        cases e : fdx (hA l r) (hB l r) with
        | none => simp only []; omega
        | some k =>
          have := List.mem_range.1 (List.mem_of_find?_eq_some e)
          simp only []; omega
      have tailF : ∀ (off : Nat) (w : List Nat), Ww w → off + w.length ≤ l.length + r.length → fJX12_head_m_123 (M h s2) (h + 308) (i32 (k : Int)) (i32 (z : Int)) (i32 (off : Int)) (i64 (r6 w : Int)) (i32 (k : Int)) = some (i32 (if k < w.length then (((hd l r).getD (off + k) 0 : Nat) : Int) else -1), M h s2) := by
        intro off w hw hoff
        have hw16 := hw.1
        unfold fJX12_head_m_123
        rw [r_len hw, sb]
        by_cases c3 : k < w.length
        · rw [if_pos (by rw [lt32 (by omega) (by omega) (by omega) (by omega)]; omega), if_pos c3, g_308_39, sb, pN]
          have hA' : (aI (M h s2) (h + 322) 0 (i32 (off : Int) + i32 (k : Int))) = some (i32 (((hA l r).getD (off + k) 0 : Nat) : Int)) := by
            rw [a32, a_322 (by omega) (by omega), show ((off : Int) + (k : Int)).toNat = off + k by omega, pA _ (by omega)]
          have hB' : (aI (M h s2) (h + 323) 0 (i32 (off : Int) + i32 (k : Int))) = some (i32 (((hB l r).getD (off + k) 0 : Nat) : Int)) := by
            rw [a32, a_323 (by omega) (by omega), show ((off : Int) + (k : Int)).toNat = off + k by omega, pB _ (by omega)]
          cases e : fdx (hA l r) (hB l r) with
          | none =>
            rw [e] at ez
            have ez : z = l.length + r.length := ez
            have eh : hd l r = hA l r := by
              unfold hd lessB
              rw [e]; rfl
            rw [if_pos (by rw [le32 (by omega) (by omega) (by omega) (by omega)]; omega), g_308_37, sb, hA', sb, eh]
          | some m =>
            rw [e] at ez
            have ez : z = m := ez
            have hm : m < l.length + r.length := by
              have := List.mem_range.1 (List.mem_of_find?_eq_some e)
              omega
            have a5 := vA m hm
            have a6 := vB m hm
            rw [if_neg (by rw [le32 (by omega) (by omega) (by omega) (by omega)]; omega), g_308_38, sb, ez, a_323 (by omega) (by omega), sb, g_308_37, sb, a_322 (by omega) (by omega), sb, tn0, pA m hm, pB m hm]
            by_cases c4 : (hB l r).getD m 0 < (hA l r).getD m 0
            · have eh : hd l r = hB l r := by
                unfold hd lessB
                rw [e]
                simp only []
                rw [if_pos (by rw [decide_eq_true_eq]; exact c4)]
              rw [if_neg (by rw [le32 (by omega) (by omega) (by omega) (by omega)]; omega), sb, hB', sb, eh]
            · have eh : hd l r = hA l r := by
                unfold hd lessB
                rw [e]
                simp only []
                rw [if_neg (by rw [decide_eq_true_eq]; exact c4)]
              rw [if_pos (by rw [le32 (by omega) (by omega) (by omega) (by omega)]; omega), sb, hA', sb, eh]
        · rw [if_neg (by rw [lt32 (by omega) (by omega) (by omega) (by omega)]; omega), if_neg c3]; rfl
      unfold fJX12_head_m_23
      rw [o_308, sb, r_yes, sb, if_neg n10]
      simp only [tn0]
      rw [g_308_37, sb, o_308, sb, e1', sb, g_308_38, sb, o_308, sb, e2', sb, hloop, sb, ← el, ← er, ltr_hdT wq1 wq2]
      unfold fJX12_head_m_87 fJX12_head_m_103
      by_cases c3 : t = 0
      · rw [if_pos (by rw [z32 (by omega)]; exact c3), if_pos (by rw [z32 (by omega)]; exact c3), o_308, sb, r_left hV.1 hR2.row hq, sb, ← el, show (0 : Int32) = i32 ((0 : Nat) : Int) from rfl, tailF 0 l wq1 (by omega), if_pos c3, if_pos c3]
        exact ra_rf hR hf (by omega) (by decide) (by decide) (by decide) (by decide) (by decide) (by decide) rfl
      · rw [if_neg (by rw [z32 (by omega)]; exact c3), o_308, sb, r_left hV.1 hR2.row hq, sb, ← el, r_len wq1, sb, if_neg (by rw [z32 (by omega)]; exact c3), sb, r_right hV.1 hR2.row hq, sb, ← er, tailF l.length r wq2 (by omega), if_neg c3, if_neg c3]
        exact ra_rf hR hf (by omega) (by decide) (by decide) (by decide) (by decide) (by decide) (by decide) rfl
    · rw [if_pos (by rw [q0]; rw [lt32 (by omega) (by omega) (by omega) (by omega)]; omega), if_neg (fun h9 => c2 h9.2), hno]
      exact ra_exc hR (by decide) rfl
  · rw [if_neg c1, if_pos rfl, if_neg (fun h9 => c1 h9.1), hno]
    exact ra_exc hR (by decide) rfl
theorem k25 {sx : Nat → Int32} {L : Nat} {i : Int32} {y : Nat → Int32} (hI : Inv s N g) (hN : N ≤ 900000) (hy : Sc5 sx L i y) : KOK h N (fK25 sx L (h + 0) (h + 308) (h + 339) i (M h s)) := by
  obtain ⟨y1, y2, y3, y4, y5⟩ := hy
  obtain ⟨a, ea, a1, a2⟩ := i32_ex (y 1)
  obtain ⟨b, eb, b1, b2⟩ := i32_ex (y 3)
  rw [ea] at y1
  rw [eb] at y3
  unfold fK25
  simp only [y1, y2, y3, sb]
  by_cases c : y 2 = 0
  · simp only [if_pos c]
    obtain ⟨v1, v2⟩ := hdV_b hI.1.ws (t := 0) (a := a) (b := b)
    exact kstd (h := h) (oR := fun σ => fX12_head σ (h + 308) (i32 a) 0 (i32 b)) hN hI.2.2.1 v1 v2 (kc_head hI (t := 0) (by decide) a1 a2 b1 b2) (fun s1 _ r1 => kr_head r1 (t := 0) (by decide) a1 a2 b1 b2)
  · simp only [if_neg c]
    obtain ⟨v1, v2⟩ := hdV_b hI.1.ws (t := 1) (a := a) (b := b)
    exact kstd (h := h) (oR := fun σ => fX12_head σ (h + 308) (i32 a) 1 (i32 b)) hN hI.2.2.1 v1 v2 (kc_head hI (t := 1) (by decide) a1 a2 b1 b2) (fun s1 _ r1 => kr_head r1 (t := 1) (by decide) a1 a2 b1 b2)
end HE
