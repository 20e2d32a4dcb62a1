/-! DRAWINGS in the reference: the canon, the whole -/
section ZR
variable {h : Nat} {s : Mm}
def YO (s : Mm) (out : List (Nat × Nat)) : Prop := ∀ j, j < out.length → s.1 334 j = i32 ((out.getD j (0, 0)).1 : Int) ∧ s.1 335 j = i32 ((out.getD j (0, 0)).2 : Int) ∧ s.1 333 (out.getD j (0, 0)).2 = i32 (j : Int)
theorem r_zmost {n0 m : Nat} {D : Dst} (hn0 : n0 ≤ 16) (hI : ZI n0 D) (hm : D.2.2.length = m) (h40 : m ≤ 40) (hZk : Yk s D.2.2 D.2.1) (hZs : Ys s D.2.2) {L : List Nat} {x : List Nat × List (Nat × Nat)} (hC : CI D.2.2 D.2.1 L x) (hL : L ≠ []) (hR : Yr s x.1) (hO : YO s x.2) :
    ∃ s', fLX12_laysCanon_2 (h + 308) (i32 (m : Int)) (i32 (x.2.length : Int), M h s) = some (.inl (i32 ((x.2.length + 1 : Nat) : Int), M h s')) ∧ Fy [333, 334, 335, 336] [55] s s' ∧ Yr s' (zc1 D.2.2 x).1 ∧ YO s' (zc1 D.2.2 x).2 := by
  obtain ⟨R0, ev, T⟩ := D
  obtain ⟨i1, i2, i3, i4, i5, i6, i7, i8⟩ := id hI
  simp only [] at i1 i2 i3 i4 i5 i6 i7 i8 hm hZk hZs hC
  have hne : ∀ k, k < T.length → zA T k ≠ [] := fun k hk => (i5 k hk).1
  have hev : ev ≤ 656 := by omega
  have hlen := hC.len
  have hxb : ∀ i ∈ x.1, i < ev := fun i hi => hC.2.2.1 i (List.mem_append_left _ hi)
  obtain ⟨p, k, L', z1, z2, z3, z4, z5, z6, z7, z8, z9, z10⟩ := hC.step hne hL
  have hx9 : x.2.length < T.length := by
    have := hC.2.2.2.2.2.2.2
    have : 0 < L.length := List.length_pos_iff.mpr hL
    omega
  obtain ⟨hp1, hp2, hp3⟩ := find_some z1
  have hkA : x.1.getD p 0 ∈ zA T k := (zli_hd (hne k z4) z5).1
  have htk : s.1 326 (x.1.getD p 0) = i32 (k : Int) := by
    rcases hZk _ (hxb _ (getD_mem (d := 0) z3)) with ⟨-, a2⟩ | ⟨k', a1, a2, a3⟩
    · exact absurd hkA (a2 k z4)
    · rw [a2, i6 k' k _ a1 z4 a3 hkA]
  have hloop : iterP (fLX12_laysCanon_9 (M h s) (h + 308) (i32 (m : Int)) (i32 (x.2.length : Int))) 0 = some (i32 (p : Int)) := by
    have hbody : ∀ p', p' < x.1.length → fLX12_laysCanon_9 (M h s) (h + 308) (i32 (m : Int)) (i32 (x.2.length : Int)) (i32 (p' : Int)) = some (if (zlk T x.1 p').isSome = true then .inr (i32 (p' : Int)) else .inl (i32 ((p' + 1 : Nat) : Int))) := by
      intro p' hp'
      have x1 := hxb _ (getD_mem (d := 0) hp')
      unfold fLX12_laysCanon_9
      rw [g_308_43, sb, g_308_54, sb, a_336 (by omega) (by omega), sb, tn0, hR.2 p' hp', a_326 (by omega) (by omega), sb, tn0]
      rcases hZk _ x1 with ⟨a1, a2⟩ | ⟨k', a1, a2, a3⟩
      · have en : zlk T x.1 p' = none := by
          cases el : zlk T x.1 p' with
          | none => rfl
          | some k2 =>
            obtain ⟨b1, b2, -⟩ := find_some el
            exact absurd (zli_hd (hne k2 b1) (of_decide_eq_true b2)).1 (a2 k2 b1)
        rw [a1, if_pos rfl, en, if_neg (by decide), xlet_eq, q1, a32]; rfl
      · obtain ⟨v1, v2, v3, v4, v5⟩ := hZs k' a1
        have hlk : (zlk T x.1 p').isSome = true ↔ zli T x.1 p' k' := by
          constructor
          · intro h9
            obtain ⟨k2, ek2⟩ := Option.isSome_iff_exists.mp h9
            obtain ⟨b1, b2, -⟩ := find_some ek2
            have := zli_u hne i6 a1 b1 a3 (of_decide_eq_true b2)
            rw [← this]; exact of_decide_eq_true b2
          · intro h9
            unfold zlk
            rw [List.find?_isSome]
            exact ⟨k', List.mem_range.mpr a1, decide_eq_true h9⟩
        rw [a2, if_neg (by rw [qm1]; rw [eq32 (by omega) (by omega) (by omega) (by omega)]; omega), sb, sb, a_336 (by omega) (by omega), sb, tn0, hR.2 p' hp', a_326 (by omega) (by omega), sb, tn0, a2, o_308, sb, r_zlies (by omega) hR v1 (i7 k' a1).2.1 hp' (by omega) (fun i hi => by have := hxb i hi; omega) (fun i hi => by have := ((i5 k' a1).2 i hi).1; omega), sb]
        by_cases c9 : zli T x.1 p' k'
        · rw [if_pos c9, if_neg (by decide), if_pos (hlk.mpr c9)]
        · rw [if_neg c9, if_pos rfl, if_neg (fun h9 => c9 (hlk.mp h9)), xlet_eq, q1, a32]; rfl
    refine iter_to p (fun j => i32 (j : Int)) rfl (fun j hj => ?_) ?_
    · rw [hbody j (by omega), if_neg (by rw [hp3 j hj]; decide)]
    · rw [hbody p z3, if_pos hp2]
  obtain ⟨v1, v2, v3, v4, v5⟩ := hZs k z4
  obtain ⟨s1, es1⟩ : ∃ s1, s1 = mI s 334 (upd (s.1 334) x.2.length (i32 (p : Int))) := ⟨_, rfl⟩
  obtain ⟨s2, es2⟩ : ∃ s2, s2 = mI s1 335 (upd (s1.1 335) x.2.length (i32 (k : Int))) := ⟨_, rfl⟩
  obtain ⟨s3, es3⟩ : ∃ s3, s3 = mI s2 333 (upd (s2.1 333) k (i32 (x.2.length : Int))) := ⟨_, rfl⟩
  have f3 : Fy [333, 334, 335, 336] [55] s s3 := by rw [es3, es2, es1]; exact ((Fy.rf.mI (by decide) (by decide)).mI (by decide) (by decide)).mI (by decide) (by decide)
  have g3 : ∀ i, i ≠ 334 → i ≠ 335 → i ≠ 333 → s3.1 i = s.1 i := fun i a b c => by rw [es3, mI_ne c, es2, mI_ne b, es1, mI_ne a]
  have hR3 : Yr s3 x.1 := ⟨by rw [g3 308 (by decide) (by decide) (by decide)]; exact hR.1, fun j hj => by rw [g3 336 (by decide) (by decide) (by decide)]; exact hR.2 j hj⟩
  have hN2 : (zc1 T x).1.length ≤ 656 := by have := z9.len; omega
  rw [z8] at hN2
  have hzl : (zrp x.1 p (zA T k).length (zB T k)).length = p + zM T k + (x.1.length - p - (zA T k).length) := zrp_len z6
  simp only [] at hN2
  have hFk := (i7 k z4).1
  obtain ⟨s4, e4, o1, o2⟩ := r_zrep (h := h) (s := s3) (R := x.1) (p := p) (k := k) (a := (zA T k).length) (b := zM T k) (f := zF T k) (by omega) hR3 (by rw [g3 328 (by decide) (by decide) (by decide)]; exact v1.1) (by rw [g3 330 (by decide) (by decide) (by decide)]; exact v2) (by rw [g3 329 (by decide) (by decide) (by decide)]; exact v3) z6 (List.length_pos_iff.mpr (hne k z4)) (by omega) (by omega) (by omega)
  refine ⟨s4, ?_, f3.tr (o1.mono (by decide) (by decide)), ?_, ?_⟩
  · have w1 : sI (M h s) (h + 334) (i32 (x.2.length : Int)) (i32 (p : Int)) = some (M h s1) := by rw [s_334 (by omega) (by omega), tn0, es1]
    have w2 : sI (M h s1) (h + 335) (i32 (x.2.length : Int)) (i32 (k : Int)) = some (M h s2) := by rw [s_335 (by omega) (by omega), tn0, es2]
    have w3 : sI (M h s2) (h + 333) (i32 (k : Int)) (i32 (x.2.length : Int)) = some (M h s3) := by rw [s_333 (by omega) (by omega), tn0, es3]
    have x1 := hxb _ (getD_mem (d := 0) z3)
    unfold fLX12_laysCanon_2
    simp only []
    rw [if_neg (by rw [le32 (by omega) (by omega) (by omega) (by omega)]; omega), hloop, sb, g_308_43, sb, g_308_54, sb, a_336 (by omega) (by omega), sb, tn0, hR.2 p z3, a_326 (by omega) (by omega), sb, tn0, htk, g_308_52, sb, w1, sb, g_308_53, sb, w2, sb, g_308_51, sb, w3, sb, o_308, sb, e4, sb, xlet_eq, q1, a32]
    rfl
  · rw [z8]; exact o2
  · rw [z8]
    intro j hj
    have hj : j < (x.2 ++ [(p, k)]).length := hj
    rw [List.length_append, show [(p, k)].length = 1 from rfl] at hj
    have q1' : s4.1 334 = upd (s.1 334) x.2.length (i32 (p : Int)) := by rw [o1.2.1 334 (by decide) (by decide), es3, mI_ne (by decide), es2, mI_ne (by decide), es1, mI_at]
    have q2' : s4.1 335 = upd (s.1 335) x.2.length (i32 (k : Int)) := by rw [o1.2.1 335 (by decide) (by decide), es3, mI_ne (by decide), es2, mI_at, es1, mI_ne (by decide)]
    have q3' : s4.1 333 = upd (s.1 333) k (i32 (x.2.length : Int)) := by rw [o1.2.1 333 (by decide) (by decide), es3, mI_at, es2, mI_ne (by decide), es1, mI_ne (by decide)]
    simp only []
    rw [q1', q2', q3']
    by_cases cj : j = x.2.length
    · subst cj
      rw [getD_app2, upd_at, upd_at, upd_at]
      exact ⟨rfl, rfl, rfl⟩
    · have hj2 : j < x.2.length := by omega
      rw [getD_app1 hj2, upd_ne cj, upd_ne cj, upd_ne (z7 _ (getD_mem hj2))]
      exact hO j hj2
theorem r_begins {q : Nat} (hq : q < 6) {t : List Nat} {c : List (Nat × Nat)} (hP : Pr (s.2 309) q t c) (hWt : Ww t) : ∃ s', fX12_begins (M h s) (h + 308) (i32 (q : Int)) = some (M h s') ∧ Fy [325, 326, 336] [44, 55] s s' ∧ DR s' (List.range t.length, t.length, []) := by
  have ht16 := hWt.1
  obtain ⟨s1, es1⟩ : ∃ s1, s1 = mI s 308 (upd (s.1 308) 44 0) := ⟨_, rfl⟩
  obtain ⟨s2, es2⟩ : ∃ s2, s2 = mI s1 308 (upd (s1.1 308) 55 (i32 (t.length : Int))) := ⟨_, rfl⟩
  have f2 : Fy [325, 326, 336] [44, 55] s s2 := by rw [es2, es1]; exact (Fy.rf.fI (by decide)).fI (by decide)
  have a55 : s2.1 308 55 = i32 (t.length : Int) := by rw [es2, mI_at, upd_at]
  have a44 : s2.1 308 44 = i32 ((0 : Nat) : Int) := by rw [es2, mI_at, upd_ne (by decide), es1, mI_at, upd_at]; rfl
  have key : ∃ y, iterP (fLX12_begins_24 (h + 308)) (0, M h s2) = some y ∧ ∃ s', y = M h s' ∧ Fy [325, 326, 336] [44, 55] s s' ∧ s'.1 308 55 = i32 (t.length : Int) ∧ s'.1 308 44 = i32 (t.length : Int) ∧ ∀ j, j < t.length → s'.1 336 j = i32 (j : Int) ∧ s'.1 325 j = -1 ∧ s'.1 326 j = -1 := by
    refine loop_ex (fun m x => ∃ s', x = (i32 (m : Int), M h s') ∧ Fy [325, 326, 336] [44, 55] s s' ∧ s'.1 308 55 = i32 (t.length : Int) ∧ s'.1 308 44 = i32 (m : Int) ∧ ∀ j, j < m → s'.1 336 j = i32 (j : Int) ∧ s'.1 325 j = -1 ∧ s'.1 326 j = -1) _ t.length (fun m x hm hx => ?_) (fun x hx => ?_) ⟨s2, rfl, f2, a55, a44, fun j hj => absurd hj (by omega)⟩
    · obtain ⟨s3, rfl, g1, g2, g3, g4⟩ := hx
      obtain ⟨s4, e4, k1, k2, k3, k4⟩ := r_draws (h := h) (s := s3) (ev := m) (v := -1) g3 (by omega)
      refine ⟨(i32 ((m + 1 : Nat) : Int), M h (mI s4 336 (upd (s4.1 336) m (i32 (m : Int))))), ?_, _, rfl, (g1.tr (k1.mono (by decide) (by decide))).mI (by decide) (by decide), ?_, ?_, fun j hj => ?_⟩
      · unfold fLX12_begins_24
        simp only []
        rw [g_308_55, sb, g2, if_neg (by rw [le32 (by omega) (by omega) (by omega) (by omega)]; omega), g_308_54, sb, o_308, sb, e4, sb]
        simp only []
        rw [s_336 (by omega) (by omega), sb, tn0, xlet_eq, q1, a32]; rfl
      · rw [mI_ne (by decide), k1.2.2 55 (by decide)]; exact g2
      · rw [mI_ne (by decide)]; exact k2
      · rw [mI_at, mI_ne (by decide), mI_ne (by decide), k3, k4]
        by_cases c : j = m
        · subst c
          rw [upd_at, upd_at, upd_at]; exact ⟨rfl, rfl, rfl⟩
        · rw [upd_ne c, upd_ne c, upd_ne c, k1.2.1 336 (by decide) (by decide)]; exact g4 j (by omega)
    · obtain ⟨s3, rfl, g1, g2, g3, g4⟩ := hx
      refine ⟨M h s3, ?_, s3, rfl, g1, g2, g3, g4⟩
      unfold fLX12_begins_24
      simp only []
      rw [g_308_55, sb, g2, if_pos (by rw [le32 (by omega) (by omega) (by omega) (by omega)]; omega)]
  obtain ⟨y, e1, s', rfl, g1, g2, g3, g4⟩ := key
  refine ⟨s', ?_, g1, ⟨by rw [List.length_range]; exact g2, fun j hj => ?_⟩, g3, fun i hi => (g4 i hi).2.1, fun i hi => Or.inl ⟨(g4 i hi).2.2, fun k hk => absurd hk (by simp)⟩, fun k hk => absurd hk (by simp)⟩
  · unfold fX12_begins
    have hs1 : s1.2 = s.2 := by rw [es1]; rfl
    have w2 : wrF (M h s1) (h + 308) 11 55 (.int (i32 (t.length : Int))) = some (M h s2) := by rw [w_308_55, es2]
    rw [w_308_44, sb, ← es1, g_308_1, sb, show (1 : Int32) = i32 ((1 : Nat) : Int) from q1, r_pl, sb, a_309 (by omega) (by omega), sb, tn0, hs1, hP.1, r_len hWt, sb, w2, sb, e1, sb]
  · rw [List.length_range] at hj
    rw [(g4 j hj).1, List.getD_eq_getElem?_getD, List.getElem?_range hj]; rfl
theorem r_draw {S : Sys} (hS : WfS S) (hRS : RR (s.2 309) S) {q : Nat} (hq : q < 6) {t : List Nat} {c : List (Nat × Nat)} (hP : Pr (s.2 309) q t c) (hD : dvOk S t c) : ∃ s', fX12_laysDrawing (M h s) (h + 308) (i32 (q : Int)) = some (M h s') ∧ Fy [325, 326, 327, 328, 329, 330, 331, 332, 333, 334, 335, 336] [44, 55] s s' ∧ Ys s' (zd S t c).2.2 ∧ YO s' (zcs (zd S t c).2.2 (List.range t.length) c.length).2 := by
  have h40 := hP.2.2.2
  have hWt := hD.1.ww hS.1.2
  have ht16 := hWt.1
  obtain ⟨s1, e1, b1, b2⟩ := r_begins (h := h) hq hP hWt
  have f1 : Fy [325, 326, 327, 328, 329, 330, 331, 332, 333, 334, 335, 336] [44, 55] s s1 := b1.mono (by decide) (by decide)
  have hcb : ∀ k, k < c.length → (c.getD k (0, 0)).1 < 16 ∧ (c.getD k (0, 0)).2 < 12 := fun k hk => by
    obtain ⟨o1, o2, -⟩ := hD.2 k hk
    have := (dvW_Wk hS hD k (by omega)).1
    have := hS.2.1
    omega
  have hloop : ∃ y, iterP (fLX12_laysDrawing_13 (h + 308) (i32 (q : Int)) (i32 (c.length : Int))) (0, M h s1) = some y ∧ ∃ s', y = M h s' ∧ Fy [325, 326, 327, 328, 329, 330, 331, 332, 333, 334, 335, 336] [44, 55] s s' ∧ DR s' (zd S t (c.take c.length)) := by
    refine loop_ex (fun k x => ∃ s', x = (i32 (k : Int), M h s') ∧ Fy [325, 326, 327, 328, 329, 330, 331, 332, 333, 334, 335, 336] [44, 55] s s' ∧ DR s' (zd S t (c.take k))) _ c.length (fun k x hk hx => ?_) (fun x hx => ?_) ⟨s1, rfl, f1, b2⟩
    · obtain ⟨s5, rfl, k1, k3⟩ := hx
      obtain ⟨z1, z2, z3⟩ := zd_ok hS hD k (by omega)
      obtain ⟨o1, o2, o3⟩ := hD.2 k hk
      have hle := fit_le o3 (by omega)
      have hwk := (dvW_Wk hS hD k (by omega)).1
      have hfit := o3.2
      obtain ⟨s6, e6, m1, m2⟩ := r_zstep (h := h) (s := s5) hS (by rw [k1.1]; exact hRS) hq (by rw [k1.1]; exact hP) hk ht16 z1 k3 (p := (c.getD k (0, 0)).1) (r := (c.getD k (0, 0)).2) rfl o2 (by omega) (by omega) (by omega) (by omega) z3
      refine ⟨(i32 ((k + 1 : Nat) : Int), M h s6), ?_, s6, rfl, k1.tr (m1.mono (by decide) (by decide)), ?_⟩
      · unfold fLX12_laysDrawing_13
        simp only []
        rw [if_neg (by rw [le32 (by omega) (by omega) (by omega) (by omega)]; omega), o_308, sb, e6, sb, xlet_eq, q1, a32]; rfl
      · rw [zd_succ hk]; exact m2
    · obtain ⟨s5, rfl, k1, k3⟩ := hx
      refine ⟨M h s5, ?_, s5, rfl, k1, k3⟩
      unfold fLX12_laysDrawing_13
      simp only []
      rw [if_pos (by rw [le32 (by omega) (by omega) (by omega) (by omega)]; omega)]
  obtain ⟨y, e5, s5, rfl, k1, k3⟩ := hloop
  rw [List.take_length] at k3
  obtain ⟨z1, z2, z3⟩ := zd_ok hS hD c.length (Nat.le_refl _)
  rw [List.take_length] at z1 z2 z3
  obtain ⟨s6, es6⟩ : ∃ s6, s6 = mI s5 308 (upd (s5.1 308) 55 (i32 (t.length : Int))) := ⟨_, rfl⟩
  have f6 : Fy [333, 334, 335, 336] [55] s5 s6 := by rw [es6]; exact Fy.rf.fI (by decide)
  have a55 : s6.1 308 55 = i32 (t.length : Int) := by rw [es6, mI_at, upd_at]
  have hlay : ∃ y, iterP (fLX12_laysDrawing_49 (h + 308) (i32 (c.length : Int))) (0, M h s6) = some y ∧ ∃ s', y = M h s' ∧ Fy [333, 334, 335, 336] [55] s5 s' ∧ Yr s' (List.range t.length) := by
    refine loop_ex (fun m x => ∃ s', x = (i32 (m : Int), M h s') ∧ Fy [333, 334, 335, 336] [55] s5 s' ∧ s'.1 308 55 = i32 (t.length : Int) ∧ ∀ j, j < m → s'.1 336 j = i32 (j : Int)) _ t.length (fun m x hm hx => ?_) (fun x hx => ?_) ⟨s6, rfl, f6, a55, fun j hj => absurd hj (by omega)⟩
    · obtain ⟨s7, rfl, g1, g2, g3⟩ := hx
      refine ⟨(i32 ((m + 1 : Nat) : Int), M h (mI s7 336 (upd (s7.1 336) m (i32 (m : Int))))), ?_, _, rfl, g1.mI (by decide) (by decide), by rw [mI_ne (by decide)]; exact g2, fun j hj => ?_⟩
      · unfold fLX12_laysDrawing_49
        simp only []
        rw [g_308_55, sb, g2, if_neg (by rw [le32 (by omega) (by omega) (by omega) (by omega)]; omega), g_308_54, sb, s_336 (by omega) (by omega), sb, tn0, xlet_eq, q1, a32]; rfl
      · rw [mI_at]
        by_cases c : j = m
        · subst c
          rw [upd_at]
        · rw [upd_ne c]; exact g3 j (by omega)
    · obtain ⟨s7, rfl, g1, g2, g3⟩ := hx
      refine ⟨M h s7, ?_, s7, rfl, g1, by rw [List.length_range]; exact g2, fun j hj => ?_⟩
      · unfold fLX12_laysDrawing_49
        simp only []
        rw [g_308_55, sb, g2, if_pos (by rw [le32 (by omega) (by omega) (by omega) (by omega)]; omega)]
      · rw [List.length_range] at hj
        rw [g3 j hj, List.getD_eq_getElem?_getD, List.getElem?_range hj]; rfl
  obtain ⟨y, e7, s7, rfl, g1, g2⟩ := hlay
  obtain ⟨j1, j2, j3, j4, j5⟩ := k3
  have hZs0 : ∀ s' : Mm, Fy [333, 334, 335, 336] [55] s5 s' → Yk s' (zd S t c).2.2 (zd S t c).2.1 ∧ Ys s' (zd S t c).2.2 := by
    intro s' hf
    constructor
    · intro i hi
      rw [hf.2.1 326 (by decide) (by decide)]; exact j4 i hi
    · intro k hk
      obtain ⟨v1, v2, v3, v4, v5⟩ := j5 k hk
      refine ⟨v1.fy hf (by decide) (by decide), ?_, ?_, ?_, ?_⟩
      · rw [hf.2.1 330 (by decide) (by decide)]; exact v2
      · rw [hf.2.1 329 (by decide) (by decide)]; exact v3
      · rw [hf.2.1 331 (by decide) (by decide)]; exact v4
      · rw [hf.2.1 332 (by decide) (by decide)]; exact v5
  have hne : ∀ k, k < (zd S t c).2.2.length → zA (zd S t c).2.2 k ≠ [] := fun k hk => (z1.2.2.2.2.1 k hk).1
  have hall := CI.all hne (CI.init z1)
  have hcan : ∃ y, iterP (fLX12_laysCanon_2 (h + 308) (i32 (c.length : Int))) (0, M h s7) = some y ∧ ∃ s', y = M h s' ∧ Fy [333, 334, 335, 336] [55] s5 s' ∧ YO s' (zcs (zd S t c).2.2 (List.range t.length) c.length).2 := by
    refine loop_ex (fun k x => ∃ s', x = (i32 (k : Int), M h s') ∧ Fy [333, 334, 335, 336] [55] s5 s' ∧ Yr s' (zcs (zd S t c).2.2 (List.range t.length) k).1 ∧ YO s' (zcs (zd S t c).2.2 (List.range t.length) k).2) _ c.length (fun k x hk hx => ?_) (fun x hx => ?_) ⟨s7, rfl, g1, g2, fun j hj => absurd hj (by simp [zcs])⟩
    · obtain ⟨s8, rfl, n1, n2, n3⟩ := hx
      obtain ⟨L, hC, hLl⟩ := hall k (by omega)
      have hol : (zcs (zd S t c).2.2 (List.range t.length) k).2.length = k := by
        have := hC.2.2.2.2.2.2.2
        omega
      obtain ⟨y1, y2⟩ := hZs0 s8 n1
      obtain ⟨s9, e9, p1, p2, p3⟩ := r_zmost (h := h) (s := s8) ht16 z1 z3 h40 y1 y2 hC (fun hz => by rw [hz] at hLl; simp at hLl; omega) n2 n3
      rw [hol] at e9
      exact ⟨_, e9, s9, rfl, n1.tr p1, p2, p3⟩
    · obtain ⟨s8, rfl, n1, n2, n3⟩ := hx
      refine ⟨M h s8, ?_, s8, rfl, n1, n3⟩
      unfold fLX12_laysCanon_2
      simp only []
      rw [if_pos (by rw [le32 (by omega) (by omega) (by omega) (by omega)]; omega)]
  obtain ⟨y, e8, s8, rfl, n1, n2⟩ := hcan
  refine ⟨s8, ?_, k1.tr (n1.mono (by decide) (by decide)), (hZs0 s8 n1).2, n2⟩
  have w6 : wrF (M h s5) (h + 308) 11 55 (.int (i32 (t.length : Int))) = some (M h s6) := by rw [w_308_55, es6]
  have ecan : fX12_laysCanon (M h s7) (h + 308) (i32 (c.length : Int)) = some (M h s8) := by unfold fX12_laysCanon; rw [e8, sb]
  have hP5 : Pr (s5.2 309) q t c := by rw [k1.1]; exact hP
  unfold fX12_laysDrawing
  rw [o_308, sb, r_stepsOf hq hP, sb, sb, e1, sb, e5, sb, g_308_1, sb, show (1 : Int32) = i32 ((1 : Nat) : Int) from q1, r_pl, sb, a_309 (by omega) (by omega), sb, tn0, hP5.1, r_len hWt, sb, w6, sb, e7, sb, o_308, sb, ecan, sb]
theorem r_rounds {T : List Ztp} {q : Nat} (hq : q < 6) {t : List Nat} {c : List (Nat × Nat)} (hP : Pr (s.2 309) q t c) (hl : T.length = c.length) (hY : Ys s T) (hb : ∀ k, k < T.length → zR T k ≤ 1000) : fX12_rounds (M h s) (h + 308) (i32 (q : Int)) = some (i32 (zrd T : Int)) := by
  have h40 := hP.2.2.2
  have hf : ∀ l, l ≤ T.length → (List.range l).foldl (fun a k => max a (zR T k)) 0 ≤ 1000 := by
    intro l
    induction l with
    | zero => intro _; simp
    | succ l ih =>
      intro hl
      rw [List.range_succ, List.foldl_append]
      have h1 := ih (by omega)
      have h2 := hb l (by omega)
      show max _ (zR T l) ≤ 1000
      omega
  have ez : (List.range T.length).foldl (fun a k => max a (zR T k)) 0 = zrd T := fold_list (fun a (x : Ztp) => max a x.2.2.2.1) ([], 0, 0, 0, 0) T 0
  unfold fX12_rounds
  rw [iter_to c.length (fun l => (i32 (((List.range l).foldl (fun a k => max a (zR T k)) 0 : Nat) : Int), i32 (l : Int))) (show ((0 : Int32), (0 : Int32)) = _ from rfl) ?_ ?_ (b := i32 (zrd T : Int)), sb]
  · intro l hl2
    unfold fLX12_rounds_4
    simp only []
    have h1 := hf l (by omega)
    have h2 := hb l (by omega)
    rw [o_308, sb, r_stepsOf hq hP, sb, if_neg (by rw [le32 (by omega) (by omega) (by omega) (by omega)]; omega), g_308_49, sb, a_331 (by omega) (by omega), sb, tn0, (hY l (by omega)).2.2.2.1, xlet_eq, xlet_eq, imax_of (by omega) (by omega), q1, a32, List.range_succ, List.foldl_append]; rfl
  · unfold fLX12_rounds_4
    simp only []
    rw [o_308, sb, r_stepsOf hq hP, sb, if_pos (by rw [le32 (by omega) (by omega) (by omega) (by omega)]; omega), ← hl, ez]
end ZR
