/-! READING in the class: lines, the whole text -/
def RG (h : Nat) (s : Mm) (B : List Nat) (o : Option (Int32 × St)) (r : PR) : Prop := ∃ s', o = some (i32 (r.1 : Int), M h s') ∧ Fr 246 252 s s' ∧ CT s' B r.2.1 ∧ (r.1 = 0 → RS s' 247 r.2.2)
section RE
variable {h : Nat} {s : Mm} {B : List Nat} {t : Tk} {S : Sys}
theorem z32 {k : Nat} (hk : k ≤ 1000) : (i32 (k : Int) = 0) = (k = 0) := by
  rw [q0, eq32 (by omega) (by omega) (by omega) (by omega)]
  exact propext ⟨fun h9 => by omega, fun h9 => by omega⟩
theorem c_rOrd (hC : CT s B t) (hV : TV B t) (hS : WfS S) (hR : RS s 247 S) : RG h s B (fX7_readOrder (M h s) (h + 246)) (pOrd B t S) := by
  have hK := hS.1.2
  obtain ⟨v1, w1⟩ := nx_tv hV.2.1
  obtain ⟨v2, w2⟩ := nx_tv v1.2.1
  obtain ⟨s1, e1, f1, C1⟩ := c_next (h := h) hC.1 hC.2.2.2 hV.2.1
  have hR1 : RS s1 247 S := hR.fr f1 (by omega)
  have hl := C1.1.2.2.1
  have hv2 := v1.2.1
  have hv3 := v1.2.2.1
  unfold fX7_readOrder pOrd
  rw [o_246, sb, e1, sb, g_246_0, sb, g_247_0, sb, hR1.1, o_246, sb, c_sideF C1 v1 hS hR1 (by omega), sb]
  have l1 := pSd_le (B := B) (t := nx B t.2.2) (K := S.1) (m := S.1)
  by_cases c1 : pSd B S.1 (nx B t.2.2) S.1 = 0
  · rw [if_pos (by rw [z32 (by omega)]; exact c1), sb, c_each C1 v1 hS hR1 c1, sb, if_pos c1]
    by_cases c2 : eaW S.1 (pWd B (nx B t.2.2))
    · obtain ⟨p1, p2, p3, -⟩ := pSd_0 v1 c1
      have pl := pWd_len v1
      have hwl := c2.1
      rw [if_pos c2, if_neg (by decide), if_pos c2, g_246_4, sb, C1.2.2.1]
      have hloop : ∃ y, iterP (fLX7_readOrder_36 (h + 246)) (i32 ((nx B t.2.2).1 : Int), M h s1) = some y ∧ ∃ s', y = M h s' ∧ Fr 251 251 s1 s' ∧ ∀ i, i < S.1 → s'.1 251 ((pWd B (nx B t.2.2)).getD i 0) = i32 (i : Int) := by
        refine loop_ex (fun j x => ∃ s', x = (i32 (((nx B t.2.2).1 + j : Nat) : Int), M h s') ∧ Fr 251 251 s1 s' ∧ ∀ i, i < j → s'.1 251 ((pWd B (nx B t.2.2)).getD i 0) = i32 (i : Int)) _ S.1 (fun j x hj hx => ?_) (fun x hx => ?_) ⟨s1, rfl, Fr.rf, fun i hi => absurd hi (by omega)⟩
        · obtain ⟨s2, rfl, k1, k2⟩ := hx
          have hC2 : CT s2 B (nx B t.2.2) := C1.fr k1 (by decide)
          have hg := pWd_get v1 (j := j) (by omega)
          have hx5 : (pWd B (nx B t.2.2)).getD j 0 < 5 := by have := p3 _ (getD_mem (d := 0) (show j < (pWd B (nx B t.2.2)).length by omega)); omega
          have hn := knd_1 (B := B) (p := (nx B t.2.2).1 + j) (by rw [v1.2.2.2.2.2.2 (Or.inl p1) _ (by omega) (by omega), p1])
          refine ⟨(i32 (((nx B t.2.2).1 + (j + 1) : Nat) : Int), M h (mI s2 251 (upd (s2.1 251) ((pWd B (nx B t.2.2)).getD j 0) (i32 (j : Int))))), ?_, _, rfl, k1.mI (by decide) (by decide), fun i hi => ?_⟩
          · unfold fLX7_readOrder_36
            simp only []
            rw [g_246_5, sb, hC2.2.2.2, if_neg (by rw [le32 (by omega) (by omega) (by omega) (by omega)]; omega), g_246_0, sb, g_247_5, sb, g_246_1, sb, c_byte hC2.1 (by omega), sb, g_246_4, sb, hC2.2.2.1, q97, s32, s32, show i32 ((bt B ((nx B t.2.2).1 + j) : Int) - 97) = i32 (((pWd B (nx B t.2.2)).getD j 0 : Nat) : Int) by rw [hg]; congr 1; omega, s_251 (by omega) (by omega), sb, tn0, xlet_eq, q1, a32, show ((((nx B t.2.2).1 + j : Nat) : Int) - ((nx B t.2.2).1 : Int)) = (j : Int) by omega]
            rfl
          · rw [mI_at]
            by_cases c : i = j
            · subst c
              rw [upd_at]
            · rw [upd_ne (fun e => c (ea_inj c2 (by omega) (by omega) e))]; exact k2 i (by omega)
        · obtain ⟨s2, rfl, k1, k2⟩ := hx
          have hC2 : CT s2 B (nx B t.2.2) := C1.fr k1 (by decide)
          refine ⟨M h s2, ?_, s2, rfl, k1, k2⟩
          unfold fLX7_readOrder_36
          simp only []
          rw [g_246_5, sb, hC2.2.2.2, if_pos (by rw [le32 (by omega) (by omega) (by omega) (by omega)]; omega)]
      obtain ⟨y, e2, s2, rfl, k1, k2⟩ := hloop
      have hC2 : CT s2 B (nx B t.2.2) := C1.fr k1 (by decide)
      obtain ⟨s3, e3, f3, C3⟩ := c_next (h := h) hC2.1 hC2.2.2.2 v1.2.1
      refine ⟨s3, ?_, ((f1.mono (by decide) (by decide)).tr (k1.mono (by decide) (by decide))).tr (f3.mono (by decide) (by decide)), C3, fun _ => ?_⟩
      · rw [e2, sb, o_246, sb, e3, sb]; rfl
      · refine RS.fr ?_ f3 (by omega)
        obtain ⟨r1, r2, r3, r4, r5, r6⟩ := hR1
        refine ⟨?_, ?_, ?_, ?_, ?_, fun x hx => ?_⟩
        · rw [k1.I 247 (by decide)]; exact r1
        · rw [k1.I 247 (by decide)]; exact r2
        · intro k hk
          rw [k1.L (247 + 1) (by decide)]; exact r3 k hk
        · intro k hk
          rw [k1.L (247 + 2) (by decide)]; exact r4 k hk
        · intro x hx
          rw [k1.I (247 + 3) (by decide)]; exact r5 x hx
        · have hx : x < S.1 := hx
          obtain ⟨a1, a2, -⟩ := rkW_mem (ea_mem c2 hx)
          have := k2 _ (show rkW (pWd B (nx B t.2.2)) x < S.1 by omega)
          rw [a2] at this
          exact this
    · rw [if_neg c2, if_pos rfl, if_neg c2]
      exact ⟨s1, rfl, f1.mono (by decide) (by decide), C1, fun h9 => absurd h9 (by simp)⟩
  · rw [if_neg (by rw [z32 (by omega)]; exact c1), if_neg c1]
    exact ⟨s1, rfl, f1.mono (by decide) (by decide), C1, fun h9 => absurd h9 c1⟩
theorem c_rWei (hC : CT s B t) (hV : TV B t) (hS : WfS S) (hR : RS s 247 S) : RG h s B (fX7_readWeigh (M h s) (h + 246)) (pWei B t S) := by
  have hK := hS.1.2
  obtain ⟨v1, w1⟩ := nx_tv hV.2.1
  obtain ⟨v2, w2⟩ := nx_tv v1.2.1
  obtain ⟨v3, w3⟩ := nx_tv v2.2.1
  obtain ⟨s1, e1, f1, C1⟩ := c_next (h := h) hC.1 hC.2.2.2 hV.2.1
  have hR1 : RS s1 247 S := hR.fr f1 (by omega)
  obtain ⟨s2, e2, f2, C2⟩ := c_next (h := h) C1.1 C1.2.2.2 v1.2.1
  have hR2 : RS s2 247 S := hR1.fr f2 (by omega)
  have hl := C1.1.2.2.1
  have hv2 := v1.2.1
  unfold fX7_readWeigh pWei
  rw [o_246, sb, e1, sb, o_246, sb, show (1 : Int32) = i32 ((1 : Nat) : Int) from q1, c_sideF C1 v1 hS hR1 (by omega), sb]
  have l1 := pSd_le (B := B) (t := nx B t.2.2) (K := S.1) (m := 1)
  by_cases c1 : pSd B S.1 (nx B t.2.2) 1 = 0
  · obtain ⟨p1, p2, p3, p4⟩ := pSd_0 v1 c1
    have pl := pWd_len v1
    have hpos : 0 < (pWd B (nx B t.2.2)).length := List.length_pos_iff.mpr p4
    have hg := pWd_get v1 (j := 0) (by omega)
    rw [Nat.add_zero] at hg
    have hx5 : (pWd B (nx B t.2.2)).getD 0 0 < 5 := by have := p3 _ (getD_mem (d := 0) hpos); omega
    have hn := knd_1 (B := B) (p := (nx B t.2.2).1) (by rw [← v1.2.2.2.1]; exact p1)
    rw [if_pos (by rw [z32 (by omega)]; exact c1), if_pos c1, g_246_1, sb, g_246_4, sb, C1.2.2.1, c_byte C1.1 (by omega), sb, xlet_eq, q97, s32, show i32 ((bt B (nx B t.2.2).1 : Int) - 97) = i32 (((pWd B (nx B t.2.2)).getD 0 0 : Nat) : Int) by rw [hg]; congr 1; omega, sb, e2, sb, o_246, sb, show (9 : Int32) = i32 ((9 : Nat) : Int) from q9, c_numF C2 v2 (by omega), sb]
    have l2 := pNf_le (B := B) (t := nx B (nx B t.2.2).2.2) (m := 9)
    by_cases c2 : pNf B (nx B (nx B t.2.2).2.2) 9 = 0
    · obtain ⟨n1, n2, n3⟩ := c_numV (h := h) C2 v2 (by omega) c2
      rw [if_pos (by rw [z32 (by omega)]; exact c2), if_pos c2, g_246_0, sb, g_247_4, sb, sb, n1, sb, s_250 (by omega) (by omega), sb, tn0]
      obtain ⟨s3, es3⟩ : ∃ s3, s3 = mI s2 250 (upd (s2.1 250) ((pWd B (nx B t.2.2)).getD 0 0) (i32 (pNm B (nx B (nx B t.2.2).2.2) : Int))) := ⟨_, rfl⟩
      have f3 : Fr 250 250 s2 s3 := by rw [es3]; exact Fr.rf.mI (by decide) (by decide)
      have C3 : CT s3 B (nx B (nx B t.2.2).2.2) := C2.fr f3 (by decide)
      obtain ⟨s4, e4, f4, C4⟩ := c_next (h := h) C3.1 C3.2.2.2 v2.2.1
      rw [← es3, o_246, sb, e4, sb]
      refine ⟨s4, rfl, (((f1.mono (by decide) (by decide)).tr (f2.mono (by decide) (by decide))).tr (f3.mono (by decide) (by decide))).tr (f4.mono (by decide) (by decide)), C4, fun _ => ?_⟩
      refine RS.fr ?_ f4 (by omega)
      obtain ⟨r1, r2, r3, r4, r5, r6⟩ := hR2
      refine ⟨?_, ?_, ?_, ?_, fun x hx => ?_, ?_⟩
      · rw [f3.I 247 (by decide)]; exact r1
      · rw [f3.I 247 (by decide)]; exact r2
      · intro k hk
        rw [f3.L (247 + 1) (by decide)]; exact r3 k hk
      · intro k hk
        rw [f3.L (247 + 2) (by decide)]; exact r4 k hk
      · show s3.1 250 x = i32 (((if x = (pWd B (nx B t.2.2)).getD 0 0 then pNm B (nx B (nx B t.2.2).2.2) else S.2.2.1 x : Nat)) : Int)
        rw [es3, mI_at]
        by_cases c : x = (pWd B (nx B t.2.2)).getD 0 0
        · rw [if_pos c, c, upd_at]
        · rw [if_neg c, upd_ne c]; exact r5 x hx
      · intro x hx
        rw [f3.I (247 + 4) (by decide)]; exact r6 x hx
    · rw [if_neg (by rw [z32 (by omega)]; exact c2), if_neg c2]
      exact ⟨s2, rfl, (f1.mono (by decide) (by decide)).tr (f2.mono (by decide) (by decide)), C2, fun h9 => absurd h9 c2⟩
  · rw [if_neg (by rw [z32 (by omega)]; exact c1), if_neg c1]
    exact ⟨s1, rfl, f1.mono (by decide) (by decide), C1, fun h9 => absurd h9 c1⟩
theorem c_rRgt (hC : CT s B t) (hV : TV B t) (hS : WfS S) (hR : RS s 247 S) (h6 : nr S < 6) {l : List Nat} (hl : Wk S.1 l) : RG h s B (fX7_readRight (M h s) (h + 246) (i64 (cw l : Int))) (pRgt B t S l) := by
  have hK := hS.1.2
  obtain ⟨v1, w1⟩ := nx_tv hV.2.1
  obtain ⟨v2, w2⟩ := nx_tv v1.2.1
  obtain ⟨s1, e1, f1, C1⟩ := c_next (h := h) hC.1 hC.2.2.2 hV.2.1
  have hR1 : RS s1 247 S := hR.fr f1 (by omega)
  unfold fX7_readRight pRgt
  rw [o_246, sb, e1, sb, o_246, sb, show (59 : Int32) = i32 ((59 : Nat) : Int) from q59, c_sgn C1 v1 (by decide), sb]
  by_cases c0 : pSg B (nx B t.2.2) 59
  · obtain ⟨s3, a1, a2, a3, -⟩ := c_addRule (h := h) rb247 hR1 (by omega) (u := l) (v := [])
    rw [if_pos c0, if_neg (by decide), if_pos c0, g_246_0, sb, rb_o rb247, sb, ← cw_nil, a1, sb]
    exact ⟨s3, rfl, (f1.mono (by decide) (by decide)).tr (a3.mono (by decide) (by decide)), C1.fr a3 (by decide), fun _ => a2⟩
  · rw [if_neg c0, if_pos rfl, if_neg c0, sb, show (4 : Int32) = i32 ((4 : Nat) : Int) from q4, c_sideF C1 v1 hS hR1 (by omega), sb]
    have l1 := pSd_le (B := B) (t := nx B t.2.2) (K := S.1) (m := 4)
    by_cases c1 : pSd B S.1 (nx B t.2.2) 4 = 0
    · have hw := wk_of (by decide) v1 c1
      rw [if_pos (by rw [z32 (by omega)]; exact c1), if_pos c1, sb, c_sideW C1 v1 hK (by decide) c1, sb]
      by_cases c2 : pWd B (nx B t.2.2) = l
      · rw [if_pos (by rw [cmp0, cwe (hw.ww hK) (hl.ww hK)]; exact c2), if_pos c2]
        exact ⟨s1, rfl, f1.mono (by decide) (by decide), C1, fun h9 => absurd h9 (by simp)⟩
      · obtain ⟨s2, e2, f2, C2⟩ := c_next (h := h) C1.1 C1.2.2.2 v1.2.1
        have hR2 : RS s2 247 S := hR1.fr f2 (by omega)
        obtain ⟨s3, a1, a2, a3, -⟩ := c_addRule (h := h) rb247 hR2 (by omega) (u := l) (v := pWd B (nx B t.2.2))
        rw [if_neg (by rw [cmp0, cwe (hw.ww hK) (hl.ww hK)]; exact c2), if_neg c2, sb, e2, sb, g_246_0, sb, rb_o rb247, sb, a1, sb]
        exact ⟨s3, rfl, ((f1.mono (by decide) (by decide)).tr (f2.mono (by decide) (by decide))).tr (a3.mono (by decide) (by decide)), C2.fr a3 (by decide), fun _ => a2⟩
    · rw [if_neg (by rw [z32 (by omega)]; exact c1), if_neg c1]
      exact ⟨s1, rfl, f1.mono (by decide) (by decide), C1, fun h9 => absurd h9 c1⟩
theorem c_rRul (hC : CT s B t) (hV : TV B t) (hS : WfS S) (hR : RS s 247 S) : RG h s B (fX7_readRule (M h s) (h + 246)) (pRul B t S) := by
  have hK := hS.1.2
  have h12 := hS.2.1
  obtain ⟨v1, w1⟩ := nx_tv hV.2.1
  obtain ⟨v2, w2⟩ := nx_tv v1.2.1
  obtain ⟨s1, e1, f1, C1⟩ := c_next (h := h) hC.1 hC.2.2.2 hV.2.1
  have hR1 : RS s1 247 S := hR.fr f1 (by omega)
  obtain ⟨s2, e2, f2, C2⟩ := c_next (h := h) C1.1 C1.2.2.2 v1.2.1
  have hR2 : RS s2 247 S := hR1.fr f2 (by omega)
  have F2 : Fr 246 252 s s2 := (f1.mono (by decide) (by decide)).tr (f2.mono (by decide) (by decide))
  unfold fX7_readRule pRul
  rw [g_246_0, sb, g_247_1, sb, hR.2.1, q6]
  by_cases c6 : 6 ≤ nr S
  · rw [if_neg (by rw [lt32 (by omega) (by omega) (by omega) (by omega)]; omega), if_pos c6]
    exact ⟨s, rfl, Fr.rf, hC, fun h9 => absurd h9 (by simp)⟩
  · rw [if_pos (by rw [lt32 (by omega) (by omega) (by omega) (by omega)]; omega), if_neg c6, o_246, sb, e1, sb, o_246, sb, show (4 : Int32) = i32 ((4 : Nat) : Int) from q4, c_sideF C1 v1 hS hR1 (by omega), sb]
    have l1 := pSd_le (B := B) (t := nx B t.2.2) (K := S.1) (m := 4)
    by_cases c1 : pSd B S.1 (nx B t.2.2) 4 = 0
    · have hw := wk_of (by decide) v1 c1
      rw [if_pos (by rw [z32 (by omega)]; exact c1), if_pos c1, sb, c_sideW C1 v1 hK (by decide) c1, sb, sb, e2, sb, o_246, sb, show (62 : Int32) = i32 ((62 : Nat) : Int) from q62, c_sgn C2 v2 (by decide), sb]
      by_cases c2 : pSg B (nx B (nx B t.2.2).2.2) 62
      · obtain ⟨s3, g1, g2, g3, g4⟩ := c_rRgt (h := h) C2 v2 hS hR2 (by omega) hw
        rw [if_pos c2, if_neg (by decide), if_pos c2, sb, g1, sb]
        exact ⟨s3, rfl, F2.tr g2, g3, g4⟩
      · rw [if_neg c2, if_pos rfl, if_neg c2]
        exact ⟨s2, rfl, F2, C2, fun h9 => absurd h9 (by simp)⟩
    · rw [if_neg (by rw [z32 (by omega)]; exact c1), if_neg c1]
      exact ⟨s1, rfl, f1.mono (by decide) (by decide), C1, fun h9 => absurd h9 c1⟩
theorem c_rLin (hC : CT s B t) (hV : TV B t) (hS : WfS S) (hR : RS s 247 S) : RG h s B (fX7_readLine (M h s) (h + 246)) (pLin B t S) := by
  unfold fX7_readLine pLin
  rw [o_246, sb, c_rowIs hC hV cst13, sb]
  by_cases c1 : pRw B t wRul
  · obtain ⟨s3, g1, g2⟩ := c_rRul (h := h) hC hV hS hR
    rw [if_pos c1, if_neg (by decide), if_pos c1, sb, g1, sb]
    exact ⟨s3, rfl, g2⟩
  · rw [if_neg c1, if_pos rfl, if_neg c1, sb, c_rowIs hC hV cst14, sb]
    by_cases c2 : pRw B t wWei
    · obtain ⟨s3, g1, g2⟩ := c_rWei (h := h) hC hV hS hR
      rw [if_pos c2, if_neg (by decide), if_pos c2, sb, g1, sb]
      exact ⟨s3, rfl, g2⟩
    · rw [if_neg c2, if_pos rfl, if_neg c2, sb, c_rowIs hC hV cst15, sb]
      by_cases c3 : pRw B t wOrd
      · obtain ⟨s3, g1, g2⟩ := c_rOrd (h := h) hC hV hS hR
        rw [if_pos c3, if_neg (by decide), if_pos c3, sb, g1, sb]
        exact ⟨s3, rfl, g2⟩
      · rw [if_neg c3, if_pos rfl, if_neg c3]
        exact ⟨s, rfl, Fr.rf, hC, fun h9 => absurd h9 (by simp)⟩
theorem c_anew {r : Nat} (H : Rb r) {K : Nat} (hK : K ≤ 5) : ∃ s', fX8_startAnew (M h s) (h + r) (i32 (K : Int)) = some (M h s') ∧ Fr r (r + 4) s s' ∧ RS s' r (sys0 K) ∧ s'.1 r 6 = s.1 r 6 + 1 ∧ s'.2 = s.2 ∧ (∀ j, j ≠ 0 → j ≠ 1 → j ≠ 6 → s'.1 r j = s.1 r j) := by
  obtain ⟨s1, es1⟩ : ∃ s1, s1 = mI (mI s r (upd (s.1 r) 0 (i32 (K : Int)))) r (upd ((mI s r (upd (s.1 r) 0 (i32 (K : Int)))).1 r) 1 0) := ⟨_, rfl⟩
  have f1 : Fr r (r + 4) s s1 := by rw [es1]; exact (Fr.rf.mI (by omega) (by omega)).mI (by omega) (by omega)
  have a0 : s1.1 r 0 = i32 (K : Int) := by rw [es1, mI_at, upd_ne (by decide), mI_at, upd_at]
  have a1 : s1.1 r 1 = 0 := by rw [es1, mI_at, upd_at]
  have aj : ∀ j, j ≠ 0 → j ≠ 1 → s1.1 r j = s.1 r j := fun j x y => by rw [es1, mI_at, upd_ne y, mI_at, upd_ne x]
  have b2 : s1.2 = s.2 := by rw [es1]; rfl
  have hloop : ∃ y, iterP (fLX8_startAnew_12 (h + r)) (0, M h s1) = some y ∧ ∃ s', y = M h s' ∧ Fr r (r + 4) s s' ∧ s'.1 r = s1.1 r ∧ s'.2 = s.2 ∧ ∀ x, x < 5 → s'.1 (r + 3) x = i32 1 ∧ s'.1 (r + 4) x = i32 (x : Int) := by
    refine loop_ex (fun k x => ∃ s', x = (i32 (k : Int), M h s') ∧ Fr r (r + 4) s s' ∧ s'.1 r = s1.1 r ∧ s'.2 = s.2 ∧ ∀ x, x < k → s'.1 (r + 3) x = i32 1 ∧ s'.1 (r + 4) x = i32 (x : Int)) _ 5 (fun k x hk hx => ?_) (fun x hx => ?_) ⟨s1, rfl, f1, rfl, b2, fun x hx => absurd hx (by omega)⟩
    · obtain ⟨s2, rfl, k1, k2, k3, k4⟩ := hx
      refine ⟨(i32 ((k + 1 : Nat) : Int), M h (mI (mI s2 (r + 3) (upd (s2.1 (r + 3)) k 1)) (r + 4) (upd (s2.1 (r + 4)) k (i32 (k : Int))))), ?_, _, rfl, (k1.mI (by omega) (by omega)).mI (by omega) (by omega), by rw [mI_ne (by omega), mI_ne (by omega)]; exact k2, k3, fun x hx => ?_⟩
      · unfold fLX8_startAnew_12
        simp only []
        rw [if_neg (by rw [q5]; rw [le32 (by omega) (by omega) (by omega) (by omega)]; omega), rb_4 H, sb, rbs_3 H (by omega) (by omega), sb, tn0, rb_5 H, sb, rbs_4 H (by omega) (by omega), sb, tn0, mI_ne (by omega), xlet_eq, q1, a32]; rfl
      · rw [mI_ne (by omega), mI_at, mI_at]
        by_cases c : x = k
        · subst c
          rw [upd_at, upd_at]; exact ⟨rfl, rfl⟩
        · rw [upd_ne c, upd_ne c]; exact k4 x (by omega)
    · obtain ⟨s2, rfl, k1⟩ := hx
      refine ⟨M h s2, ?_, s2, rfl, k1⟩
      unfold fLX8_startAnew_12
      simp only []
      rw [if_pos (by rw [q5]; rw [le32 (by omega) (by omega) (by omega) (by omega)]; omega)]
  obtain ⟨y, e1, s2, rfl, k1, k2, k3, k4⟩ := hloop
  refine ⟨mI s2 r (upd (s2.1 r) 6 (s.1 r 6 + 1)), ?_, k1.mI (by omega) (by omega), ⟨?_, ?_, fun k hk => absurd hk (by show ¬ k < 0; omega), fun k hk => absurd hk (by show ¬ k < 0; omega), fun x hx => ?_, fun x hx => ?_⟩, by rw [mI_at, upd_at], k3, fun j x y z => by rw [mI_at, upd_ne z, k2]; exact aj j x y⟩
  · unfold fX8_startAnew
    rw [rbw_0 H, sb, rbw_1 H, sb, ← es1, e1, sb, rb_6 H, sb, k2, aj 6 (by decide) (by decide), rbw_6 H, sb, k2]
  · rw [mI_at, upd_ne (by decide), k2]; exact a0
  · rw [mI_at, upd_ne (by decide), k2]; exact a1
  · rw [mI_ne (by omega)]; exact (k4 x hx).1
  · have hx : x < K := hx
    rw [mI_ne (by omega)]; exact (k4 x (by omega)).2
theorem c_readText (hT : RT (mI s 246 (upd (s.1 246) 2 (i32 (B.length : Int)))) B) : RG h s B (fX7_readText (M h s) (h + 246) (i32 (B.length : Int))) (pAll B) := by
  obtain ⟨s1, es1⟩ : ∃ s1, s1 = mI (mI s 246 (upd (s.1 246) 2 (i32 (B.length : Int)))) 246 (upd ((mI s 246 (upd (s.1 246) 2 (i32 (B.length : Int)))).1 246) 5 0) := ⟨_, rfl⟩
  have hT1 : RT s1 B := by rw [es1]; exact hT.f (by decide)
  have F1 : Fr 246 252 s s1 := by rw [es1]; exact (Fr.rf.mI (by decide) (by decide)).mI (by decide) (by decide)
  have a5 : s1.1 246 5 = i32 ((0 : Nat) : Int) := by rw [es1, mI_at, upd_at]; rfl
  have hl := hT.2.2.1
  obtain ⟨v1, w1⟩ := nx_tv (B := B) (p := 0) (by omega)
  obtain ⟨v2, w2⟩ := nx_tv v1.2.1
  obtain ⟨v3, w3⟩ := nx_tv v2.2.1
  obtain ⟨s2, e2, f2, C2⟩ := c_next (h := h) hT1 a5 (by omega)
  have F2 : Fr 246 252 s s2 := F1.tr (f2.mono (by decide) (by decide))
  have hx : ∀ v : Int32, ¬ v = 0 → ∀ (k : Nat) (s' : Mm), k ≤ 300 → iterP (fLX7_readText_17 (h + 246)) (v, i32 (k : Int), M h s') = some (.inr (.inr (v, M h s'))) := by
    intro v hv k s' hk
    refine iter_to 0 (fun _ => (v, i32 (k : Int), M h s')) rfl (fun k hk => absurd hk (by omega)) ?_
    unfold fLX7_readText_17
    simp only []
    rw [if_neg (by rw [q300]; rw [lt32 (by omega) (by omega) (by omega) (by omega)]; omega), if_neg hv]
  have hloop : ∀ (n i : Nat) (t : Tk) (S : Sys) (s' : Mm), i + n = 301 → TV B t → i ≤ t.1 → WfS S → nr S ≤ 6 → Fr 246 252 s s' → CT s' B t → RS s' 247 S → RG h s B ((iterP (fLX7_readText_17 (h + 246)) (0, i32 (i : Int), M h s')).bind fun b17 => (match b17 with
      | .inl s17 => some (1, s17)
      | .inr (.inl s17) => some (0, s17)
      | .inr (.inr s17) => some (s17.1, s17.2))) (pTxt B n t S) := by
    intro n
    induction n with
    | zero => intro i t S s' hi hV ht; have := hV.1; omega
    | succ n ih =>
      intro i t S s' hi hV ht hS h6 hF hC hR
      obtain ⟨u1, x1⟩ := nx_tv hV.2.1
      rw [pTxt]
      by_cases c1 : pSg B t 59
      · obtain ⟨s3, e3, f3, C3⟩ := c_next (h := h) hC.1 hC.2.2.2 hV.2.1
        have hR3 : RS s3 247 S := hR.fr f3 (by omega)
        have F3 : Fr 246 252 s s3 := hF.tr (f3.mono (by decide) (by decide))
        have hk3 := u1.2.2.2.2.1
        rw [if_pos c1]
        by_cases c2 : (nx B t.2.2).2.1 = 0
        · rw [if_pos c2, iter_to 0 (fun _ => ((0 : Int32), i32 (i : Int), M h s')) rfl (fun k hk => absurd hk (by omega)) (b := .inr (.inl (M h s3))) ?_, sb]
          · exact ⟨s3, rfl, F3, C3, fun _ => hR3⟩
          · unfold fLX7_readText_17
            simp only []
            rw [if_neg (by rw [q300]; rw [lt32 (by omega) (by omega) (by omega) (by omega)]; omega), if_pos trivial, o_246, sb, show (59 : Int32) = i32 ((59 : Nat) : Int) from q59, c_sgn hC hV (by decide), sb, if_pos c1, if_neg (by decide), sb, e3, sb, g_246_3, sb, C3.2.1, if_pos (by rw [c2]; rfl)]
        · obtain ⟨s4, g1, g2, g3, g4⟩ := c_rLin (h := h) C3 u1 hS hR3
          obtain ⟨p1, p2, p3⟩ := pLin_g u1 hS h6
          have hb : fLX7_readText_17 (h + 246) (0, i32 (i : Int), M h s') = some (.inl (i32 ((pLin B (nx B t.2.2) S).1 : Int), i32 ((i + 1 : Nat) : Int), M h s4)) := by
            unfold fLX7_readText_17
            simp only []
            rw [if_neg (by rw [q300]; rw [lt32 (by omega) (by omega) (by omega) (by omega)]; omega), if_pos trivial, o_246, sb, show (59 : Int32) = i32 ((59 : Nat) : Int) from q59, c_sgn hC hV (by decide), sb, if_pos c1, if_neg (by decide), sb, e3, sb, g_246_3, sb, C3.2.1, if_neg (by rw [z32 (by omega)]; exact c2), o_246, sb, g1, sb, xlet_eq, q1, a32]; rfl
          rw [if_neg c2, iter_inl hb]
          by_cases c3 : (pLin B (nx B t.2.2) S).1 = 0
          · obtain ⟨q1', q2', q3'⟩ := p3 c3
            rw [if_pos c3, c3]
            have hlt := hV.2.2.2.2.2.1 (by rw [c1.1]; decide)
            have := u1.2.2.1
            have := x1
            have := hV.1
            exact ih (i + 1) _ _ s4 (by omega) p1 (by omega) q2' q3' (F3.tr g2) g3 (g4 c3)
          · have hi3 : i + 1 ≤ 300 := by
              have hlt := hV.2.2.2.2.2.1 (by rw [c1.1]; decide)
              have := hV.2.1
              omega
            rw [if_neg c3, hx _ (by rw [z32 (by omega)]; exact c3) _ _ hi3, sb]
            exact ⟨s4, rfl, F3.tr g2, g3, fun h9 => absurd h9 c3⟩
      · have := hV.1
        rw [if_neg c1, iter_to 0 (fun _ => ((0 : Int32), i32 (i : Int), M h s')) rfl (fun k hk => absurd hk (by omega)) (b := .inl (M h s')) ?_, sb]
        · exact ⟨s', rfl, hF, hC, fun h9 => absurd h9 (by simp)⟩
        · unfold fLX7_readText_17
          simp only []
          rw [if_neg (by rw [q300]; rw [lt32 (by omega) (by omega) (by omega) (by omega)]; omega), if_pos trivial, o_246, sb, show (59 : Int32) = i32 ((59 : Nat) : Int) from q59, c_sgn hC hV (by decide), sb, if_neg c1, if_pos rfl]
  unfold fX7_readText fX7_readLetters pAll
  rw [w_246_2, sb, w_246_5, sb, ← es1, o_246, sb, sb, e2, sb, o_246, sb, c_rowIs C2 v1 cst12, sb]
  by_cases c1 : pRw B (nx B 0) wLet
  · obtain ⟨s3, e3, f3, C3⟩ := c_next (h := h) C2.1 C2.2.2.2 v1.2.1
    have F3 : Fr 246 252 s s3 := F2.tr (f3.mono (by decide) (by decide))
    rw [if_pos c1, if_neg (by decide), if_pos c1, sb, e3, sb, o_246, sb, show (5 : Int32) = i32 ((5 : Nat) : Int) from q5, c_numF C3 v2 (by omega), sb]
    have l2 := pNf_le (B := B) (t := nx B (nx B 0).2.2) (m := 5)
    by_cases c2 : pNf B (nx B (nx B 0).2.2) 5 = 0
    · obtain ⟨n1, n2, n3⟩ := c_numV (h := h) C3 v2 (by omega) c2
      obtain ⟨s4, e4, f4, R4, -⟩ := c_anew (h := h) (s := s3) rb247 n3
      have C4 : CT s4 B (nx B (nx B 0).2.2) := C3.fr f4 (by decide)
      obtain ⟨s5, e5, f5, C5⟩ := c_next (h := h) C4.1 C4.2.2.2 v2.2.1
      have R5 : RS s5 247 (sys0 (pNm B (nx B (nx B 0).2.2))) := R4.fr f5 (by omega)
      have F5 : Fr 246 252 s s5 := (F3.tr (f4.mono (by decide) (by decide))).tr (f5.mono (by decide) (by decide))
      rw [if_pos (by rw [z32 (by omega)]; exact c2), if_pos c2, g_246_0, sb, sb, n1, sb, rb_o rb247, sb, e4, sb, o_246, sb, e5, sb, sb]
      exact hloop 301 0 _ _ s5 (by omega) v3 (by omega) (sys0_wf n2 n3) (by show 0 ≤ 6; omega) F5 C5 R5
    · rw [if_neg (by rw [z32 (by omega)]; exact c2), if_neg c2, sb]
      simp only []
      rw [show (0 : Int32) = i32 ((0 : Nat) : Int) from rfl, hx _ (by rw [z32 (by omega)]; exact c2) 0 _ (by omega), sb]
      exact ⟨s3, rfl, F3, C3, fun h9 => absurd h9 c2⟩
  · rw [if_neg c1, if_pos rfl, if_neg c1, sb]
    simp only []
    rw [show ((1 : Int32), (0 : Int32), M h s2) = ((1 : Int32), i32 ((0 : Nat) : Int), M h s2) from rfl, hx _ (by decide) 0 _ (by omega), sb]
    exact ⟨s2, rfl, F2, C2, fun h9 => absurd h9 (by simp)⟩
end RE
