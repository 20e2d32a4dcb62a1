/-! CALLS that change: image, back, undo -/
section UN
variable {h : Nat} {s s' : Mm} {g g' : Gst} {N : Nat}
theorem k32 {sx : Nat → Int32} {L : Nat} {i : Int32} (hI : Inv s N g) (hN : N ≤ 900000) : KOK h N (fK32 sx L (h + 0) (h + 308) (h + 339) i (M h s)) := by
  obtain ⟨h1, h2, h3, h4, h5, h6, h7, a, b, h8⟩ := id hI.1
  obtain ⟨s1, e1, d1, f1, -⟩ := c_copyDesk (h := h) hd13 hd2 (by omega) hI.1.1
  obtain ⟨s2, es2⟩ : ∃ s2, s2 = mI s1 0 (upd (s1.1 0) 5 1) := ⟨_, rfl⟩
  have f2 : Fr 0 0 s1 s2 := by rw [es2]; exact Fr.rf.mI (by decide) (by decide)
  have z2 : ∀ j, j ≠ 5 → s2.1 0 j = s.1 0 j := fun j hj => by rw [es2, mI_at, upd_ne hj, f1.I 0 (by omega)]
  have c2 : CV s2 N (g.1, g.2.1, some g.1, g.2.2.2) := by
    refine ⟨(h1.fr f1 (by omega)).fr f2 (by omega), (h2.fr f1 (by omega)).fr f2 (by omega), ⟨by rw [es2, mI_at, upd_at], d1.fr f2 (by omega)⟩, ?_, by rw [z2 2 (by decide)]; exact h5, ?_, ?_, a, b, (h8.fr f1 (by omega)).fr f2 (by omega)⟩
    · unfold TPc at *
      show s2.1 0 1 = _ ∧ _
      rw [z2 1 (by decide), f2.I 1 (by omega), f1.I 1 (by omega)]; exact h4
    · unfold SDc at *
      show s2.1 0 19 = _ ∧ _
      rw [z2 19 (by decide), f2.I 307 (by omega), f1.I 307 (by omega)]; exact h6
    · have := h7.fr f1 (by omega)
      obtain ⟨ch, k1, k2, k3, k4, k5, k6, k7⟩ := this
      exact ⟨ch, k1, by rw [f2.I 3 (by omega)]; exact k2, k3.fr f2 (by omega), k4.fr f2 (by omega), k5.fr f2 (by omega), k6.fr f2 (by omega), k7.fr f2 (by omega)⟩
  have r2 : RV s2 g := (hI.2.1.cls f1 (by omega)).cls f2 (by omega)
  obtain ⟨t0, et0⟩ : ∃ t0, t0 = thr s2 0 := ⟨_, rfl⟩
  have r0 : RV t0 g := by rw [et0]; exact rv_thr r2
  have ec := r_copies (h := h) (s := t0) (a := 309) (b := 311) (p := 0) (q := 0) sh_309 sh_311 (by decide) (by decide) (by decide) (by decide) (by decide) (by decide) (by decide)
  obtain ⟨s3, es3⟩ : ∃ s3, s3 = mL t0 311 (fun j => if 0 ≤ j ∧ j < 0 + 294 then t0.2 309 (0 + (j - 0)) else t0.2 311 j) := ⟨_, rfl⟩
  rw [← es3] at ec
  obtain ⟨s4, es4⟩ : ∃ s4, s4 = mI s3 308 (upd (s3.1 308) 4 1) := ⟨_, rfl⟩
  have z4 : ∀ j, j ≠ 4 → s4.1 308 j = t0.1 308 j := fun j hj => by rw [es4, mI_at, upd_ne hj, es3]; rfl
  have y4 : ∀ i, i ≠ 308 → s4.1 i = t0.1 i := fun i hi => by rw [es4, mI_ne hi, es3]; rfl
  have x4 : ∀ i, i ≠ 311 → s4.2 i = t0.2 i := fun i hi => by
    rw [es4]
    show s3.2 i = _
    rw [es3, mL_ne hi]
  have f4 : Fr 308 338 s2 s4 := fun i hi => by
    have q : t0.1 i = s2.1 i := by rw [et0]; exact thr_i (by omega)
    exact ⟨(y4 i (by omega)).trans q, by rw [x4 i (by omega), et0]; rfl⟩
  refine ⟨s4, (g.1, g.2.1, some g.1, g.2.2.2), ?_, (c2.mono (by omega)).work f4 (Or.inr (Or.inr (Or.inr (by decide)))), ?_, hI.2.2.1, by omega⟩
  · unfold fK32 fX11_image fX12_image
    have ec' : fX12_copies (M h t0) (h + 309) 0 (h + 311) 0 = some (M h s3) := ec
    rw [o_0, sb, g_0_4, sb, g_0_3, sb, o_13, sb, e1, sb, w_0_5, sb, sb, ← es2, o_308, sb, w_thr, sb, ← et0, g_308_1, sb, g_308_3, sb, ec', sb, w_308_4, sb, sb, ← es4]
  · obtain ⟨k1, k2, k3, k4, k5, k6⟩ := r0
    refine ⟨by rw [x4 309 (by decide)]; exact k1, ?_, ⟨by rw [es4, mI_at, upd_at], ?_⟩, ?_, by rw [z4 14 (by decide)]; exact k5, ?_⟩
    · unfold ACR at *
      rw [z4 5 (by decide), x4 310 (by decide)]; exact k2
    · refine k1.congr (fun j hj => ?_)
      rw [es4]
      show s3.2 311 j = _
      rw [es3, mL_at, if_pos (by omega), show 0 + (j - 0) = j by omega]
    · unfold TPq at *
      show s4.1 308 7 = _ ∧ _
      rw [z4 7 (by decide), y4 312 (by decide)]; exact k4
    · unfold SDr at *
      show s4.1 308 41 = _ ∧ _
      rw [z4 41 (by decide), y4 324 (by decide)]; exact k6
/-- the class's desk came from elsewhere -/
theorem CV.desk {Y : Snap} {A : List Snap} (hC : CV s N g) (hi : ∀ i, ¬ (3 ≤ i ∧ i ≤ 12) → i ≠ 24 → s'.1 i = s.1 i ∧ s'.2 i = s.2 i) (hX : DX s' 2 Y) (hA : ACT s' A) (h6 : s'.1 3 6 = s.1 3 6 + 1) (h8 : s'.1 3 8 = s.1 3 8) : CV s' (N + 100) (Y, A, g.2.2) := by
  obtain ⟨h1, h2, h3, h4, h5, h6', h7, a, b, h8'⟩ := hC
  refine ⟨hX, hA, ?_, ?_, ?_, ?_, ?_, a, b, ?_⟩
  · unfold KPc at *
    show (match g.2.2.1 with
      | none => s'.1 0 5 = 0
      | some Y => s'.1 0 5 = 1 ∧ DX s' 13 Y)
    cases hI : g.2.2.1 with
    | none => rw [hI] at h3; show s'.1 0 5 = 0; rw [(hi 0 (by omega) (by omega)).1]; exact h3
    | some Z =>
      rw [hI] at h3
      refine ⟨by rw [(hi 0 (by omega) (by omega)).1]; exact h3.1, ?_⟩
      obtain ⟨⟨p1, p2, p3, p4, p5, p6⟩, q2, q3⟩ := h3.2
      refine ⟨⟨by rw [(hi (13 + 1) (by omega) (by omega)).1]; exact p1, by rw [(hi (13 + 1) (by omega) (by omega)).1]; exact p2, by rw [(hi (13 + 1 + 1) (by omega) (by omega)).2]; exact p3, by rw [(hi (13 + 1 + 2) (by omega) (by omega)).2]; exact p4, by rw [(hi (13 + 1 + 3) (by omega) (by omega)).1]; exact p5, by rw [(hi (13 + 1 + 4) (by omega) (by omega)).1]; exact p6⟩, fun q hq => ?_, q3⟩
      rw [(hi (13 + 7) (by omega) (by omega)).2, (hi (13 + 8) (by omega) (by omega)).2, (hi (13 + 9) (by omega) (by omega)).1, (hi (13 + 10) (by omega) (by omega)).1]
      exact q2 q hq
  · unfold TPc at *
    show s'.1 0 1 = _ ∧ _
    rw [(hi 0 (by omega) (by omega)).1, (hi 1 (by omega) (by omega)).1]; exact h4
  · rw [(hi 0 (by omega) (by omega)).1]; exact h5
  · unfold SDc at *
    show s'.1 0 19 = _ ∧ _
    rw [(hi 0 (by omega) (by omega)).1, (hi 307 (by omega) (by omega)).1]; exact h6'
  · exact h7.bump (fun i x y => (hi i (by omega) (by omega)).1) h8 (fun ch x y => ⟨ch + 1, by omega, by omega, inc32 y h6⟩)
  · unfold AS at *
    rw [(hi 272 (by omega) (by omega)).1]; exact h8'
theorem RV.cls2 (hR : RV s g) (hi : ∀ i, ¬ (3 ≤ i ∧ i ≤ 12) → i ≠ 24 → s'.1 i = s.1 i ∧ s'.2 i = s.2 i) : RV s' g := by
  obtain ⟨k1, k2, k3, k4, k5, k6⟩ := hR
  refine ⟨by rw [(hi 309 (by omega) (by omega)).2]; exact k1, ?_, ?_, ?_, by rw [(hi 308 (by omega) (by omega)).1]; exact k5, ?_⟩
  · unfold ACR at *
    rw [(hi 308 (by omega) (by omega)).1, (hi 310 (by omega) (by omega)).2]; exact k2
  · unfold KPr at *
    cases hI : g.2.2.1 with
    | none => rw [hI] at k3; show s'.1 308 4 = 0; rw [(hi 308 (by omega) (by omega)).1]; exact k3
    | some Y => rw [hI] at k3; exact ⟨by rw [(hi 308 (by omega) (by omega)).1]; exact k3.1, by rw [(hi 311 (by omega) (by omega)).2]; exact k3.2⟩
  · unfold TPq at *
    rw [(hi 308 (by omega) (by omega)).1, (hi 312 (by omega) (by omega)).1]; exact k4
  · unfold SDr at *
    rw [(hi 308 (by omega) (by omega)).1, (hi 324 (by omega) (by omega)).1]; exact k6
/-- the reference's row came from elsewhere, and the count of its acts -/
theorem RV.row2 {Y : Snap} {A : List Snap} {f : Nat → Int64} (hR : RV s g) (hX : RX f Y) (hl : A.length ≤ 20) (hA : ∀ k, k < A.length → RX (fun j => s.2 310 (294 * k + j)) (A.getD k X0)) : RV (mI (mL s 309 f) 308 (upd (s.1 308) 5 (i32 (A.length : Int)))) (Y, A, g.2.2) := by
  obtain ⟨k1, k2, k3, k4, k5, k6⟩ := hR
  refine ⟨?_, ⟨by rw [mI_at, upd_at], hl, fun k hk => ?_⟩, ?_, ?_, ?_, ?_⟩
  · show RX ((mL s 309 f).2 309) Y
    rw [mL_at]; exact hX
  · show RX (fun j => (mL s 309 f).2 310 (294 * k + j)) _
    rw [mL_ne (by decide)]; exact hA k hk
  · unfold KPr at *
    cases hI : g.2.2.1 with
    | none =>
      rw [hI] at k3
      show (mI (mL s 309 f) 308 (upd (s.1 308) 5 (i32 (A.length : Int)))).1 308 4 = 0
      rw [mI_at, upd_ne (by decide)]; exact k3
    | some Z =>
      rw [hI] at k3
      refine ⟨by rw [mI_at, upd_ne (by decide)]; exact k3.1, ?_⟩
      show RX ((mL s 309 f).2 311) Z
      rw [mL_ne (by decide)]; exact k3.2
  · unfold TPq at *
    rw [mI_at, upd_ne (by decide), mI_ne (by decide)]; exact k4
  · rw [mI_at, upd_ne (by decide)]; exact k5
  · unfold SDr at *
    rw [mI_at, upd_ne (by decide), mI_ne (by decide)]; exact k6
theorem r_back (hR : RV s g) {Y : Snap} (hY : g.2.2.1 = some Y) : ∃ s', fX12_back (M h s) (h + 308) = some (1, M h s') ∧ Fr 308 338 s s' ∧ RV s' (Y, [], g.2.2) := by
  have r0 : RV (thr s 0) g := rv_thr hR
  have kp := r0.2.2.1
  rw [hY] at kp
  obtain ⟨b1, b2⟩ : (thr s 0).1 308 4 = 1 ∧ RX ((thr s 0).2 311) Y := kp
  have ec := r_copies (h := h) (s := thr s 0) (a := 311) (b := 309) (p := 0) (q := 0) sh_311 sh_309 (by decide) (by decide) (by decide) (by decide) (by decide) (by decide) (by decide)
  obtain ⟨f, ef⟩ : ∃ f : Nat → Int64, f = (fun j => if 0 ≤ j ∧ j < 0 + 294 then (thr s 0).2 311 (0 + (j - 0)) else (thr s 0).2 309 j) := ⟨_, rfl⟩
  rw [← ef] at ec
  have ec' : fX12_copies (M h (thr s 0)) (h + 311) 0 (h + 309) 0 = some (M h (mL (thr s 0) 309 f)) := ec
  have hX : RX f Y := b2.congr (fun j hj => by rw [ef]; simp only []; rw [if_pos (by omega), show 0 + (j - 0) = j by omega])
  refine ⟨_, ?_, ?_, r0.row2 (A := []) hX (by decide) (fun k hk => absurd hk (by show ¬ k < 0; omega))⟩
  · unfold fX12_back
    rw [w_thr, sb, g_308_4, sb, b1, if_neg n10, g_308_3, sb, g_308_1, sb, ec', sb, w_308_5, sb]
    rfl
  · exact thr_fr.tr ((Fr.rf.mL (by decide) (by decide)).mI (by decide) (by decide))
theorem ACT.nil (hA : ∃ A, ACT s A) : ACT (mI s 24 (upd (s.1 24) 2 0)) [] := by
  obtain ⟨A, n, h1, h2, -⟩ := hA
  exact ⟨n, h1, by rw [mI_at, upd_ne (by decide)]; exact h2, by rw [mI_at, upd_at]; rfl, by decide, fun j hj => absurd hj (by show ¬ j < 0; omega)⟩
theorem k33 {sx : Nat → Int32} {L : Nat} {i : Int32} (hI : Inv s N g) (hN : N ≤ 900000) : KOK h N (fK33 sx L (h + 0) (h + 308) (h + 339) i (M h s)) := by
  have kp := hI.1.2.2.1
  unfold fK33
  cases hY : g.2.2.1 with
  | none =>
    rw [hY] at kp
    have kp : s.1 0 5 = 0 := kp
    have kr := (rv_thr (k := 0) hI.2.1).2.2.1
    rw [hY] at kr
    have kr : (thr s 0).1 308 4 = 0 := kr
    refine ⟨thr s 0, g, ?_, hI.1.mono (by omega) |>.work thr_fr (Or.inr (Or.inr (Or.inr (by decide)))), rv_thr hI.2.1, hI.2.2.1, by omega⟩
    unfold fX11_back fX12_back
    rw [o_0, sb, g_0_5, sb, kp, if_pos rfl, sb]
    simp only []
    rw [o_308, sb, w_thr, sb, g_308_4, sb, kr, if_pos rfl, sb, if_pos rfl]
  | some Y =>
    rw [hY] at kp
    obtain ⟨b1, b2⟩ : s.1 0 5 = 1 ∧ DX s 13 Y := kp
    obtain ⟨s1, e1, d1, f1, c1, c2, c3⟩ := c_copyDesk (h := h) hd2 hd13 (by omega) b2
    obtain ⟨s2, es2⟩ : ∃ s2, s2 = mI s1 24 (upd (s1.1 24) 2 0) := ⟨_, rfl⟩
    have f2 : Fr 24 24 s1 s2 := by rw [es2]; exact Fr.rf.mI (by decide) (by decide)
    have hi : ∀ i, ¬ (3 ≤ i ∧ i ≤ 12) → i ≠ 24 → s2.1 i = s.1 i ∧ s2.2 i = s.2 i := fun i x y => ⟨by rw [f2.I i (by omega), f1.I i (by omega)], by rw [f2.L i (by omega), f1.L i (by omega)]⟩
    have hA : ACT s2 [] := by rw [es2]; exact ACT.nil ⟨_, hI.1.2.1.fr f1 (by omega)⟩
    have hC2 : CV s2 (N + 100) (Y, [], g.2.2) := hI.1.desk hi (d1.fr f2 (by omega)) hA (by rw [f2.I 3 (by omega)]; exact c1) (by rw [f2.I 3 (by omega)]; exact c2 8 (by decide) (by decide) (by decide))
    obtain ⟨s3, e3, f3, r3⟩ := r_back (h := h) (hI.2.1.cls2 hi) hY
    refine ⟨s3, (Y, [], g.2.2), ?_, hC2.work f3 (Or.inr (Or.inr (Or.inr (by decide)))), r3, hI.2.2.1, by omega⟩
    unfold fX11_back fX0_forget
    rw [o_0, sb, g_0_5, sb, b1, if_neg n10, g_0_3, sb, g_0_4, sb, o_2, sb, e1, sb, g_0_6, sb, o_24, sb, w_24_2, sb, sb, sb, ← es2]
    simp only []
    rw [o_308, sb, e3, sb, if_pos rfl]
theorem r_undo (hR : RV s g) (hne : g.2.1.length ≠ 0) : ∃ s', fX12_undo (M h s) (h + 308) = some (i32 ((g.2.1.length - 1 : Nat) : Int), M h s') ∧ Fr 308 338 s s' ∧ RV s' (g.2.1.getD (g.2.1.length - 1) X0, g.2.1.dropLast, g.2.2) := by
  have r0 : RV (thr s 0) g := rv_thr hR
  obtain ⟨a1, a2, a3⟩ := r0.2.1
  obtain ⟨s1, es1⟩ : ∃ s1, s1 = mI (thr s 0) 308 (upd ((thr s 0).1 308) 5 (i32 ((g.2.1.length - 1 : Nat) : Int))) := ⟨_, rfl⟩
  have z1 : s1.1 308 5 = i32 ((g.2.1.length - 1 : Nat) : Int) := by rw [es1, mI_at, upd_at]
  have ec := r_copies (h := h) (s := s1) (a := 310) (b := 309) (p := 294 * (g.2.1.length - 1)) (q := 0) sh_310 sh_309 (by decide) (by decide) (by omega) (by decide) (by decide) (by decide) (by decide)
  obtain ⟨f, ef⟩ : ∃ f : Nat → Int64, f = (fun j => if 0 ≤ j ∧ j < 0 + 294 then s1.2 310 (294 * (g.2.1.length - 1) + (j - 0)) else s1.2 309 j) := ⟨_, rfl⟩
  rw [← ef] at ec
  have ec' : fX12_copies (M h s1) (h + 310) (i32 ((294 * (g.2.1.length - 1) : Nat) : Int)) (h + 309) 0 = some (M h (mL s1 309 f)) := ec
  have hX : RX f (g.2.1.getD (g.2.1.length - 1) X0) := (a3 (g.2.1.length - 1) (by omega)).congr (fun j hj => by
    rw [ef]
    simp only []
    rw [if_pos (by omega), show j - 0 = j by omega, es1]
    rfl)
  have hdl : g.2.1.dropLast.length = g.2.1.length - 1 := List.length_dropLast
  have hfin := r0.row2 (A := g.2.1.dropLast) hX (by omega) (fun k hk => by
    have : g.2.1.dropLast.getD k X0 = g.2.1.getD k X0 := by
      rw [List.getD_eq_getElem?_getD, List.getD_eq_getElem?_getD, List.getElem?_dropLast, if_pos (by omega)]
    rw [this]
    exact a3 k (by omega))
  have hst : mI (mL (thr s 0) 309 f) 308 (upd ((thr s 0).1 308) 5 (i32 (g.2.1.dropLast.length : Int))) = mL s1 309 f := by
    rw [hdl, es1]; rfl
  rw [hst] at hfin
  refine ⟨mL s1 309 f, ?_, ?_, hfin⟩
  · unfold fX12_undo
    have e5 : (thr s 0).1 308 5 - 1 = i32 ((g.2.1.length - 1 : Nat) : Int) := by
      rw [a1, q1, s32]
      congr 1
      omega
    have e6 : (294 : Int32) * s1.1 308 5 = i32 ((294 * (g.2.1.length - 1) : Nat) : Int) := by
      rw [z1, q294, m32]
      congr 1
    rw [w_thr, sb, g_308_5, sb, if_neg (by rw [a1, z32 (by omega)]; exact hne), sb, w_308_5, sb, e5, ← es1, g_308_2, sb, g_308_5, sb, g_308_1, sb, e6, ec', sb, g_308_5, sb]
    show some (s1.1 308 5, M h (mL s1 309 f)) = _
    rw [z1]
  · rw [es1]
    exact thr_fr.tr ((Fr.rf.mI (by decide) (by decide)).mL (by decide) (by decide))
theorem k31 {sx : Nat → Int32} {L : Nat} {i : Int32} (hI : Inv s N g) (hN : N ≤ 900000) : KOK h N (fK31 sx L (h + 0) (h + 308) (h + 339) i (M h s)) := by
  obtain ⟨n, n1, n2, n3, n4, n5⟩ := id hI.1.2.1
  unfold fK31
  by_cases c : g.2.1.length = 0
  · have kr := (rv_thr (k := 0) hI.2.1).2.1.1
    refine ⟨thr s 0, g, ?_, hI.1.mono (by omega) |>.work thr_fr (Or.inr (Or.inr (Or.inr (by decide)))), rv_thr hI.2.1, hI.2.2.1, by omega⟩
    unfold fX11_undo fX12_undo
    rw [o_0, sb, g_0_6, sb, g_24_2, sb, n3, c, if_pos (by decide), sb]
    simp only []
    rw [o_308, sb, w_thr, sb, g_308_5, sb, kr, c, if_pos (by decide), sb, if_pos rfl]
  · obtain ⟨s1, e1, hi, a1, d1, c1, c2, c3, c4⟩ := c_giveBack (h := h) hI.1.2.1 c
    have hC1 : CV s1 (N + 100) (g.2.1.getD (g.2.1.length - 1) X0, g.2.1.dropLast, g.2.2) := hI.1.desk hi d1 a1 c1 (c2 8 (by decide) (by decide) (by decide))
    obtain ⟨s3, e3, f3, r3⟩ := r_undo (h := h) (hI.2.1.cls2 hi) c
    refine ⟨s3, _, ?_, hC1.work f3 (Or.inr (Or.inr (Or.inr (by decide)))), r3, hI.2.2.1, by omega⟩
    unfold fX11_undo
    rw [o_0, sb, g_0_6, sb, g_24_2, sb, n3, if_neg (by rw [z32 (by omega)]; exact c), sb, g_0_3, sb, o_24, sb, e1, sb, g_0_6, sb, g_24_2, sb, c4, sb]
    simp only []
    rw [o_308, sb, e3, sb, if_pos rfl]
end UN
