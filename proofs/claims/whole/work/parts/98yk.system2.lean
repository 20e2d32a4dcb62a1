/-! CALLS that change: system, the reference -/
section SZ
variable {h : Nat} {s s' : Mm} {g g' : Gst} {N : Nat} {B : List Nat} {t : Tk}
def CR (s : Mm) (B : List Nat) (t : Tk) : Prop := CTr s B t ∧ TV B t ∧ fin s
theorem r_nx0 (hC : CR s B t) : ∃ s', fX12_goes (M h s) (h + 308) = some (M h s') ∧ Fy [] [9, 10, 11, 12] s s' ∧ CR s' B (nx B t.2.2) := by
  obtain ⟨c1, c2, c3⟩ := hC
  obtain ⟨s1, e1, f1, C1⟩ := r_goes (h := h) c1.1 c1.2.1 c2.2.1
  exact ⟨s1, e1, f1, C1, (nx_tv c2.2.1).1, (f1.2.2 13 (by decide)).trans c3⟩
theorem r_number0 (hC : CR s B t) {m : Nat} (hm : m ≤ 16) : ∃ s' v, fX12_number (M h s) (h + 308) 1 (i32 (m : Int)) = some (v, M h s') ∧ ((pNf B t m = 0 ∧ Fy [] [9, 10, 11, 12] s s' ∧ CR s' B (nx B t.2.2) ∧ v = i32 (pNm B t : Int) ∧ 1 ≤ pNm B t ∧ pNm B t ≤ m) ∨ (pNf B t m ≠ 0 ∧ v = 1 ∧ s' = flt s (pNf B t m) t.1)) := by
  obtain ⟨c1, c2, c3⟩ := id hC
  have hb := c1.1.2.2.2
  have htb := tok_b (t := t) hb
  unfold fX12_number fJX12_number_m_23 pNf
  rw [o_308, sb, r_fine c3, sb, if_neg (by decide), g_308_11, sb, c1.2.2.2.1, show (1001 : Int32) = i32 1001 from by decide]
  by_cases k1 : t.2.1 = 2
  · obtain ⟨v, v1, v2, v3⟩ := c1.2.2.2.2 k1
    rw [if_pos (by rw [(tok_2 hb).mpr k1]; rfl), if_pos k1, sb, r_ck1 c3, sb, if_neg n10]
    simp only []
    rw [g_308_12, sb, v1, toL (by omega) (by omega), show (1 : Int32).toInt64 = i64 1 from by decide, toL (by omega) (by omega), r_isIn (by omega) (by omega) (by omega), sb]
    by_cases k2 : 1 ≤ pNm B t ∧ pNm B t ≤ m
    · obtain ⟨s1, e1, f1, C1⟩ := r_nx0 (h := h) hC
      rw [if_pos (show ((1 : Int) ≤ (v : Int) ∧ (v : Int) ≤ (m : Int)) by omega), if_pos k2, o_308, sb, r_ck1 c3, sb, if_neg n10]
      simp only []
      rw [g_308_12, sb, v1, o_308, sb, e1, sb]
      exact ⟨s1, _, rfl, Or.inl ⟨trivial, f1, C1, by rw [show v = pNm B t by omega], k2⟩⟩
    · rw [if_neg (show ¬ ((1 : Int) ≤ (v : Int) ∧ (v : Int) ≤ (m : Int)) by omega), if_neg k2, o_308, sb, show (2 : Int32) = i32 ((2 : Nat) : Int) from q2, r_ck0 c3 (by decide) (by decide) c1.2.2.1, sb, if_pos rfl]
      exact ⟨_, _, rfl, Or.inr ⟨by decide, rfl, rfl⟩⟩
  · have hne : ¬ tok B t = 1001 := fun h9 => k1 ((tok_2 hb).mp h9)
    have ek := r_ck0 (h := h) c3 (c := 1) (by decide) (by decide) c1.2.2.1
    rw [if_neg (by rw [eq32 (by omega) (by omega) (by omega) (by omega)]; omega), if_neg k1, sb, show fX12_check (M h s) (h + 308) 0 1 = _ from ek, sb, if_pos rfl]
    exact ⟨_, _, rfl, Or.inr ⟨by decide, rfl, rfl⟩⟩
theorem frd_row {j : Nat} (hj : j < 36) {v : Int64} : Frd s (mL s 313 (vp_updL (s.2 313) j v)) := ⟨fun _ _ => rfl, fun i a => by rw [mL_ne a], fun _ _ => rfl, fun k hk => by rw [mL_at, updL_ne (by omega)], fun h9 => ⟨h9, rfl⟩⟩
theorem r_chain {α : Type} (K : St → Option α) (hT : RTr s B) (h9 : s.1 308 9 = 0) (h13 : fin s) (f1 : s.2 313 1 = 0) (f2 : ∀ x, x < 5 → s.2 313 (2 + x) = i64 1) (f7 : ∀ x, x < 5 → s.2 313 (7 + x) = i64 (x : Int)) : ∃ s', RZ s s' B (pAll B) ∧ ((isO (M h s) (h + 308) 11).bind fun _ => (fX12_goes (M h s) (h + 308)).bind fun w60 => (isO w60 (h + 308) 11).bind fun _ => (fX12_isWord w60 (h + 308) 12).bind fun w68 => (isO w60 (h + 308) 11).bind fun _ => (fX12_check w60 (h + 308) w68 1).bind fun w72 => if w72.1 = 0 then ((iterP (fLX12_system_101 (h + 308)) w72.2).bind fun b101 => K b101) else ((isO w72.2 (h + 308) 11).bind fun _ => (fX12_goes w72.2 (h + 308)).bind fun w79 => (gR w79 (h + 308) 11 15).bind fun v83 => (isO w79 (h + 308) 11).bind fun _ => (fX12_number w79 (h + 308) 1 5).bind fun w90 => (sL w90.2 v83 0 w90.1.toInt64).bind fun σ94 => (isO σ94 (h + 308) 11).bind fun _ => (fX12_must σ94 (h + 308) 59).bind fun w98 => (iterP (fLX12_system_101 (h + 308)) w98).bind fun b101 => K b101)) = K (M h s') := by
  obtain ⟨s1, e1, y1, C1⟩ := r_goes (h := h) hT (p := 0) h9 (by omega)
  obtain ⟨v1, -⟩ := nx_tv (B := B) (p := 0) (by omega)
  have fin1 : fin s1 := (y1.2.2 13 (by decide)).trans h13
  have R1 : CR s1 B (nx B 0) := ⟨C1, v1, fin1⟩
  have F1 : Frd s s1 := Frd.of y1
  unfold pAll
  rw [o_308, sb, e1, sb, o_308, sb, r_wordIs C1 v1 cst12, sb, sb]
  by_cases c1 : pRw B (nx B 0) wLet
  · obtain ⟨s2, e2, y2, R2⟩ := r_nx0 (h := h) R1
    have F2 : Frd s s2 := F1.tr (Frd.of y2)
    obtain ⟨s3, v, e3, e4⟩ := r_number0 (h := h) R2 (m := 5) (by decide)
    have e3' : fX12_number (M h s2) (h + 308) 1 5 = some (v, M h s3) := e3
    rw [if_pos c1, if_pos c1, r_ck1 fin1, sb, if_neg n10]
    simp only []
    rw [o_308, sb, e2, sb, g_308_15, sb, o_308, sb, e3', sb]
    simp only []
    rcases e4 with ⟨k1, y3, R3, rfl, k2, k3⟩ | ⟨k1, rfl, rfl⟩
    · rw [if_pos k1]
      obtain ⟨q, eq⟩ : ∃ q, q = pNm B (nx B (nx B 0).2.2) := ⟨_, rfl⟩
      rw [← eq] at k2 k3 ⊢
      obtain ⟨s4, es4⟩ : ∃ s4, s4 = mL s3 313 (vp_updL (s3.2 313) 0 (i64 (q : Int))) := ⟨_, rfl⟩
      have w4 : sL (M h s3) (h + 313) 0 (i32 (q : Int)).toInt64 = some (M h s4) := by
        rw [toL (by omega) (by omega), q0, s_313 (by decide) (by decide), es4]; rfl
      have F4 : Frd s s4 := by rw [es4]; exact (F2.tr (Frd.of y3)).tr (frd_row (by decide))
      have row : ∀ j, j ≠ 0 → s4.2 313 j = s.2 313 j := fun j hj => by
        rw [es4, mL_at, updL_ne hj, y3.1, y2.1, y1.1]
      have C4 : CS s4 B (nx B (nx B (nx B 0).2.2).2.2) (sys0 q) := by
        refine ⟨by rw [es4]; exact R3.1, R3.2.1, by rw [es4]; exact R3.2.2, ⟨by rw [es4, mL_at, updL_at]; rfl, by rw [row 1 (by decide)]; exact f1, fun x hx => by rw [row (2 + x) (by omega)]; exact f2 x hx, fun k hk => ⟨k, hk, ?_, rfl⟩, fun r hr => absurd hr (by show ¬ r < 0; omega), fun r hr => absurd hr (by show ¬ r < 0; omega)⟩, sys0_wf k2 k3⟩
        have hk : k < q := hk
        rw [row (7 + k) (by omega)]
        exact f7 k (by omega)
      obtain ⟨s5, e5, F5, e6⟩ := r_must (h := h) C4 (c := 59) (by decide)
      have e5' : fX12_must (M h s4) (h + 308) 59 = some (M h s5) := e5
      rw [w4, sb, o_308, sb, e5', sb, pTxt_lp]
      rcases e6 with ⟨k4, C5⟩ | ⟨k4, rfl⟩
      · obtain ⟨s6, e7, z6⟩ := r_sysLoop (h := h) 300 0 _ _ s5 (by omega) (by omega) (by show 0 ≤ 6; omega) C5
        rw [if_pos k4, e7, sb]
        exact ⟨s6, RZ.pre (F4.tr F5) z6, rfl⟩
      · rw [if_neg k4, r_stop (flt_nf (by decide) (by decide)), sb]
        exact ⟨_, rz_flt (by decide) (by decide) F4, rfl⟩
    · have hnf := pNf_le (B := B) (t := nx B (nx B 0).2.2) (m := 5)
      rw [if_neg k1]
      obtain ⟨s3, es3⟩ : ∃ s3, s3 = flt s2 (pNf B (nx B (nx B 0).2.2) 5) (nx B (nx B 0).2.2).1 := ⟨_, rfl⟩
      have Z3 : RZ s s3 B (pNf B (nx B (nx B 0).2.2) 5, nx B (nx B 0).2.2, sys0 1) := by rw [es3]; exact rz_flt k1 (by omega) F2
      rw [← es3]
      obtain ⟨s4, es4⟩ : ∃ s4, s4 = mL s3 313 (vp_updL (s3.2 313) 0 (i64 1)) := ⟨_, rfl⟩
      have w4 : sL (M h s3) (h + 313) 0 (1 : Int32).toInt64 = some (M h s4) := by
        rw [show (1 : Int32) = i32 1 from q1, toL (by omega) (by omega), q0, s_313 (by decide) (by decide), es4]; rfl
      obtain ⟨z1, z2, z3⟩ := Z3
      obtain ⟨z4, z5, z6⟩ := z3 k1
      have nf4 : ¬ fin s4 := by rw [es4]; exact z6
      rw [w4, sb, o_308, sb, r_mustX nf4, sb, r_stop nf4, sb]
      refine ⟨s4, ⟨by rw [es4]; exact z1.tr (frd_row (by decide)), fun h9 => absurd h9 k1, fun _ => ⟨by rw [es4]; exact z4, by rw [es4]; exact z5, nf4⟩⟩, rfl⟩
  · rw [if_neg c1, if_neg c1, show (1 : Int32) = i32 ((1 : Nat) : Int) from q1, r_ck0 fin1 (by decide) (by decide) C1.2.2.1, sb, if_pos rfl]
    rw [r_stop (flt_nf (by decide) (by decide)), sb]
    exact ⟨_, rz_flt (by decide) (by decide) F1, rfl⟩
theorem kr_system (hR : RV s g) (hk : okG g) {a : Int} (a1 : -2147483648 ≤ a) (a2 : a ≤ 2147483647) : RA h s (smR g a).1 (fX12_system (M h s) (h + 308) (i32 a)) (smR g a).2.1 (smR g a).2.2 := by
  have hR0 : RV (thr s 0) g := (rv_thr hR)
  have hT := hR0.2.2.2.1
  have hl := hk.1
  unfold fX12_system smR
  rw [w_thr, sb, g_308_7, sb, hT.1, toL (show -2147483648 ≤ ((g.2.2.2.1.length : Nat) : Int) by omega) (by omega), show (0 : Int64) = i64 0 from by decide, in64 a1 a2 (by omega) (by omega), sb, o_308, sb]
  by_cases c1 : 0 ≤ a ∧ a ≤ g.2.2.2.1.length
  · rw [if_pos c1, if_pos c1, r_yes, sb, if_neg n10]
    obtain ⟨n, rfl⟩ := nat_of c1.1
    simp only [tn0]
    obtain ⟨P, eP⟩ : ∃ P, P = g.2.2.2.1.take n := ⟨_, rfl⟩
    have hP : P.length = n := by rw [eP, List.length_take]; omega
    rw [← eP]
    obtain ⟨pg1, pg2, pg3⟩ := pAll_g (B := P)
    obtain ⟨s1, es1⟩ : ∃ s1, s1 = mI (thr s 0) 308 (upd ((thr s 0).1 308) 8 (i32 (n : Int))) := ⟨_, rfl⟩
    obtain ⟨s2, es2⟩ : ∃ s2, s2 = mI s1 308 (upd (s1.1 308) 7 0) := ⟨_, rfl⟩
    obtain ⟨s3, es3⟩ : ∃ s3, s3 = mI s2 308 (upd (s2.1 308) 9 0) := ⟨_, rfl⟩
    obtain ⟨s4, es4⟩ : ∃ s4, s4 = mI s3 308 (upd (s3.1 308) 13 0) := ⟨_, rfl⟩
    obtain ⟨s5, es5⟩ : ∃ s5, s5 = mI s4 308 (upd (s4.1 308) 14 (-1)) := ⟨_, rfl⟩
    obtain ⟨f, ef, f0, f1, f2, f7, f12⟩ := r_clears (h := h) (s := s5) (c := 313) sh_313 (by decide) (K := 0) (by decide)
    have ef' : fX12_clears (M h s5) (h + 313) 0 = some (M h (mL s5 313 f)) := ef
    obtain ⟨s6, es6⟩ : ∃ s6, s6 = mL s5 313 f := ⟨_, rfl⟩
    have p14 : s6.1 308 14 = -1 := by rw [es6]; show s5.1 308 14 = -1; rw [es5, mI_at, upd_at]
    have p13 : s6.1 308 13 = 0 := by rw [es6]; show s5.1 308 13 = 0; rw [es5, mI_at, upd_ne (by decide), es4, mI_at, upd_at]
    have p9 : s6.1 308 9 = 0 := by rw [es6]; show s5.1 308 9 = 0; rw [es5, mI_at, upd_ne (by decide), es4, mI_at, upd_ne (by decide), es3, mI_at, upd_at]
    have p7 : s6.1 308 7 = 0 := by rw [es6]; show s5.1 308 7 = 0; rw [es5, mI_at, upd_ne (by decide), es4, mI_at, upd_ne (by decide), es3, mI_at, upd_ne (by decide), es2, mI_at, upd_at]
    have p8 : s6.1 308 8 = i32 (n : Int) := by rw [es6]; show s5.1 308 8 = _; rw [es5, mI_at, upd_ne (by decide), es4, mI_at, upd_ne (by decide), es3, mI_at, upd_ne (by decide), es2, mI_at, upd_ne (by decide), es1, mI_at, upd_at]
    have pj : ∀ j, j ∉ [7, 8, 9, 13, 14] → s6.1 308 j = (thr s 0).1 308 j := fun j hj => by
      have h7 : j ≠ 7 := fun e => hj (by rw [e]; decide)
      have h8 : j ≠ 8 := fun e => hj (by rw [e]; decide)
      have h9 : j ≠ 9 := fun e => hj (by rw [e]; decide)
      have h13 : j ≠ 13 := fun e => hj (by rw [e]; decide)
      have h14 : j ≠ 14 := fun e => hj (by rw [e]; decide)
      rw [es6]
      show s5.1 308 j = _
      rw [es5, mI_at, upd_ne h14, es4, mI_at, upd_ne h13, es3, mI_at, upd_ne h9, es2, mI_at, upd_ne h7, es1, mI_at, upd_ne h8]
    have pi : ∀ i, i ≠ 308 → s6.1 i = (thr s 0).1 i := fun i hi => by
      rw [es6]
      show s5.1 i = _
      rw [es5, mI_ne hi, es4, mI_ne hi, es3, mI_ne hi, es2, mI_ne hi, es1, mI_ne hi]
    have pl : ∀ i, i ≠ 313 → s6.2 i = (thr s 0).2 i := fun i hi => by
      rw [es6, mL_ne hi, es5, es4, es3, es2, es1]; rfl
    have p313 : s6.2 313 = f := by rw [es6, mL_at]
    have hRT : RTr s6 P := ⟨by rw [p8, hP], fun j hj => by rw [pi 312 (by decide), eP, bt_tk (by omega)]; exact hT.2 j (by omega), by omega, fun j => by rw [eP]; exact bt_take hk.2.1 j⟩
    obtain ⟨s7, ⟨F7, Z0, Z1⟩, ec⟩ := r_chain (h := h) (K := fun b => fJX12_system_m_131 b (h + 308)) hRT p9 p13 (by rw [p313]; exact f1) (fun x hx => by rw [p313]; exact f2 x hx) (fun x hx => by rw [p313]; exact f7 x hx)
    have q7 : s7.1 308 7 = 0 := (F7.2.2.1 7 (by decide)).trans p7
    have qj : ∀ j, j ∉ [7, 8, 9, 10, 11, 12, 13, 14] → s7.1 308 j = (thr s 0).1 308 j := fun j hj => by
      rw [F7.2.2.1 j (fun h9 => hj (by simp at h9 ⊢; omega)), pj j (fun h9 => hj (by simp at h9 ⊢; omega))]
    have qi : ∀ i, i ≠ 308 → s7.1 i = (thr s 0).1 i := fun i hi => (F7.1 i hi).trans (pi i hi)
    have ql : ∀ i, i ≠ 313 → s7.2 i = (thr s 0).2 i := fun i hi => (F7.2.1 i hi).trans (pl i hi)
    have q313 : ∀ j, 36 ≤ j → j < 294 → s7.2 313 j = 0 := fun j h8 h9 => by rw [F7.2.2.2.1 j h8, p313]; exact f12 j (by omega) h9
    have hRV : ∀ v : Int, s7.1 308 14 = i32 v → RV s7 (g.1, g.2.1, g.2.2.1, [], v, g.2.2.2.2.2) := fun v hv => by
      obtain ⟨k1, k2, k3, k4, k5, k6⟩ := hR0
      refine ⟨by rw [ql 309 (by decide)]; exact k1, ?_, ?_, ⟨by rw [q7]; rfl, fun j hj => absurd hj (by show ¬ j < 0; omega)⟩, hv, ?_⟩
      · unfold ACR at *
        rw [qj 5 (by decide), ql 310 (by decide)]; exact k2
      · unfold KPr at *
        show (match g.2.2.1 with
          | none => s7.1 308 4 = 0
          | some Y => s7.1 308 4 = 1 ∧ RX (s7.2 311) Y)
        cases hI : g.2.2.1 with
        | none => rw [hI] at k3; show s7.1 308 4 = 0; rw [qj 4 (by decide)]; exact k3
        | some Y => rw [hI] at k3; exact ⟨by rw [qj 4 (by decide)]; exact k3.1, by rw [ql 311 (by decide)]; exact k3.2⟩
      · unfold SDr at *
        show s7.1 308 41 = _ ∧ _
        rw [qj 41 (by decide), qi 324 (by decide)]; exact k6
    have hF7 : Fr 308 338 s s7 := thr_fr.tr (fun i hi => ⟨qi i (by omega), ql i (by omega)⟩)
    have hz : s7.1 308 0 = 0 := (qj 0 (by decide)).trans thr_0
    rw [w_308_8, sb, ← es1, w_308_7, sb, ← es2, w_308_9, sb, ← es3, w_308_13, sb, ← es4, w_308_14, sb, ← es5, g_308_15, sb, ef', sb, ← es6]
    have hgo : ∀ {o : Option (Int32 × St)} {G : Gst} {v : Int}, RA h s G (fJX12_system_m_131 (M h s7) (h + 308)) 0 v → o = fJX12_system_m_131 (M h s7) (h + 308) → RA h s G o 0 v := fun h8 h9 => by rw [h9]; exact h8
    by_cases c2 : (pAll P).1 = 0
    · rw [if_pos c2]
      refine hgo ?_ ec
      obtain ⟨hS, h6⟩ := pg3 c2
      obtain ⟨d1, d2, d3, d4, d5⟩ := Z0 c2
      have r7 := hRV (-1) ((F7.2.2.2.2 d3).2.trans (p14.trans (show (-1 : Int32) = i32 (-1) by decide)))
      have ecp := r_copies (h := h) (s := s7) (a := 313) (b := 309) (p := 0) (q := 0) sh_313 sh_309 (by decide) (by decide) (by decide) (by decide) (by decide) (by decide) (by decide)
      obtain ⟨F, eF⟩ : ∃ F : Nat → Int64, F = (fun j => if 0 ≤ j ∧ j < 0 + 294 then s7.2 313 (0 + (j - 0)) else s7.2 309 j) := ⟨_, rfl⟩
      rw [← eF] at ecp
      have ecp' : fX12_copies (M h s7) (h + 313) 0 (h + 309) 0 = some (M h (mL s7 309 F)) := ecp
      have hFj : ∀ j, j < 294 → F j = s7.2 313 j := fun j hj => by rw [eF]; simp only []; rw [if_pos (by omega), show 0 + (j - 0) = j by omega]
      have hX : RX F (allP (pAll P).2.2 emP) := by
        refine ⟨d4.c36 hS (fun j hj => hFj j (by omega)), fun q hq => ⟨⟨?_, ?_, fun k hk => absurd hk (by show ¬ k < 0; omega), by show 0 ≤ 40; omega⟩, ?_⟩, allP_VX hS (fun p hp => ⟨by show 0 ≤ 16; omega, fun x hx => by cases hx⟩)⟩
        · rw [hFj _ (by omega), q313 _ (by omega) (by omega)]; rfl
        · rw [hFj _ (by omega), q313 _ (by omega) (by omega)]; rfl
        · rw [hFj _ (by omega), q313 _ (by omega) (by omega)]; rfl
      have r8 := r7.row2 (A := []) hX (by decide) (fun k hk => absurd hk (by show ¬ k < 0; omega))
      obtain ⟨s8, es8⟩ : ∃ s8, s8 = mI (mL s7 309 F) 308 (upd (s7.1 308) 5 (i32 (([] : List Snap).length : Int))) := ⟨_, rfl⟩
      rw [← es8] at r8
      unfold fJX12_system_m_131
      have w5 : wrF (M h (mL s7 309 F)) (h + 308) 11 5 (.int 0) = some (M h s8) := by rw [w_308_5, es8]; rfl
      rw [o_308, sb, r_fine d3, sb, if_neg n10, g_308_15, sb, g_308_1, sb, ecp', sb, w5, sb, o_308, sb, r_rules r8.row, sb]
      refine ra_ans (hF7.tr (s'' := s8) ?_) r8 ?_ rfl
      · rw [es8]; exact (Fr.rf.mL (by decide) (by decide)).mI (by decide) (by decide)
      · rw [es8, mI_at, upd_ne (by decide)]; exact hz
    · rw [if_neg c2]
      refine hgo ?_ ec
      obtain ⟨d1, d2, d3⟩ := Z1 c2
      unfold fJX12_system_m_131
      rw [o_308, sb, r_nfine d3, sb, if_pos rfl, g_308_13, sb, d1, show (-10 : Int32) = i32 (-10) from by decide, s32]
      exact ra_ans hF7 (hRV _ d2) hz rfl
  · rw [if_neg c1, if_neg c1, r_nayt, sb, if_pos rfl]
    exact ra_exc hR (show (1 : Nat) ≠ 0 by decide) rfl
theorem k1 {sx : Nat → Int32} {L : Nat} {i : Int32} {y : Nat → Int32} (hI : Inv s N g) (hN : N ≤ 900000) (hy : Sc5 sx L i y) : KOK h N (fK1 sx L (h + 0) (h + 308) (h + 339) i (M h s)) := by
  obtain ⟨y1, y2, y3, y4, y5⟩ := hy
  obtain ⟨a, ea, a1, a2⟩ := i32_ex (y 1)
  rw [ea] at y1
  unfold fK1
  simp only [y1, sb]
  obtain ⟨v1, v2⟩ := smR_b (g := g) (a := a)
  exact kstd (h := h) (oR := fun σ => fX12_system σ (h + 308) (i32 a)) hN (smR_ok hI.2.2.1) v1 v2 (kc_system hI a1 a2) (fun s1 _ r1 => kr_system r1 hI.2.2.1 a1 a2)
end SZ
