/-! PLACES in the class -/
section PL
variable {h : Nat} {s : Mm} {X : Snap}
def bgM (s : Mm) (q : Nat) (v : Int64) : Mm := mI (mL (mL s 9 (vp_updL (s.2 9) q v)) 10 (vp_updL (s.2 10) q v)) 11 (upd (s.1 11) q 0)
theorem c_beginM {q : Nat} (hq : q < 6) {v : Int64} : fX2_begin (M h s) (h + 2) (i32 (q : Int)) v = some (M h (bgM s q v)) := by
  unfold fX2_begin bgM
  rw [g_2_1, sb, s_9 (by omega) (by omega), sb, tn0, g_2_2, sb, s_10 (by omega) (by omega), sb, tn0, mL_ne (by decide), g_2_3, sb, show (0 : Int32) = i32 0 from rfl, s_11 (by omega) (by omega), sb, tn0]
  rfl
theorem bgM_fr {q : Nat} {v : Int64} : Fr 9 11 s (bgM s q v) := by
  unfold bgM
  exact ((Fr.rf.mL (by decide) (by decide)).mL (by decide) (by decide)).mI (by decide) (by decide)
theorem bgM_9 {q : Nat} {v : Int64} : (bgM s q v).2 9 = vp_updL (s.2 9) q v := by
  unfold bgM
  show (mL (mL s 9 (vp_updL (s.2 9) q v)) 10 (vp_updL (s.2 10) q v)).2 9 = _
  rw [mL_ne (by decide), mL_at]
theorem bgM_10 {q : Nat} {v : Int64} : (bgM s q v).2 10 = vp_updL (s.2 10) q v := by
  unfold bgM
  show (mL (mL s 9 (vp_updL (s.2 9) q v)) 10 (vp_updL (s.2 10) q v)).2 10 = _
  rw [mL_at]
theorem bgM_11 {q : Nat} {v : Int64} : (bgM s q v).1 11 = upd (s.1 11) q 0 := by
  unfold bgM
  rw [mI_at]
theorem c_begin (hX : DX s 2 X) {q : Nat} (hq : q < 6) {w : List Nat} (hw : Wk X.1.1 w) : ∃ s', fX2_begin (M h s) (h + 2) (i32 (q : Int)) (i64 (cw w : Int)) = some (M h s') ∧ Fr 9 11 s s' ∧ DX s' 2 (begP X q w) := by
  obtain ⟨hR, hP, hV⟩ := hX
  refine ⟨_, c_beginM hq, bgM_fr, hR.fr bgM_fr (by omega), fun p hp => ?_, begP_VX hV hw⟩
  show (bgM s q (i64 (cw w : Int))).2 9 p = _ ∧ (bgM s q (i64 (cw w : Int))).2 10 p = _ ∧ (bgM s q (i64 (cw w : Int))).1 11 p = _ ∧ _
  rw [bgM_9, bgM_10, bgM_11]
  by_cases c : p = q
  · subst c
    rw [updL_at, updL_at, upd_at, nowP_beg, begP_q]
    exact ⟨rfl, rfl, rfl, fun k hk => absurd hk (by simp)⟩
  · obtain ⟨p1, p2, p3, p4⟩ := hP p hp
    rw [updL_ne c, updL_ne c, upd_ne c, nowP_begn c, begP_n c]
    refine ⟨p1, p2, p3, fun k hk => ?_⟩
    show (bgM s q (i64 (cw w : Int))).1 12 (p * 40 + k) = _
    rw [bgM_fr.I 12 (by decide)]; exact p4 k hk
theorem c_addStep (hX : DX s 2 X) {q : Nat} (hq : q < 6) {x : Nat × Nat} (hx : okS X.1 (nowP X q) x) (hl : (X.2 q).2.length < 40) : ∃ s', fX2_addStep (M h s) (h + 2) (i32 (q : Int)) (i32 (cod x : Int)) = some (M h s') ∧ Fr 10 12 s s' ∧ DX s' 2 (addP X q x) := by
  obtain ⟨hR, hP, hV⟩ := hX
  obtain ⟨p1, p2, p3, p4⟩ := hP q hq
  have p1 : s.2 9 q = _ := p1
  have p2 : s.2 10 q = _ := p2
  have p3 : s.1 11 q = _ := p3
  have hW := (nowP_Wk hV hq).ww hV.1.1.2
  obtain ⟨s1, es1⟩ : ∃ s1, s1 = mI s 12 (upd (s.1 12) (q * 40 + (X.2 q).2.length) (i32 (cod x : Int))) := ⟨_, rfl⟩
  obtain ⟨s2, es2⟩ : ∃ s2, s2 = mI s1 11 (upd (s1.1 11) q (i32 (((X.2 q).2.length + 1 : Nat) : Int))) := ⟨_, rfl⟩
  obtain ⟨s3, es3⟩ : ∃ s3, s3 = mL s2 10 (vp_updL (s2.2 10) q (i64 (cw (aft X.1 (nowP X q) x) : Int))) := ⟨_, rfl⟩
  have F2 : Fr 10 12 s s2 := by rw [es2, es1]; exact (Fr.rf.mI (by decide) (by decide)).mI (by decide) (by decide)
  have F3 : Fr 10 12 s s3 := by rw [es3]; exact F2.mL (by decide) (by decide)
  have b11 : s1.1 11 q = i32 ((X.2 q).2.length : Int) := by rw [es1, mI_ne (by decide)]; exact p3
  have b10 : s2.2 10 q = i64 (cw (nowP X q) : Int) := by rw [es2, es1]; exact p2
  have hR2 : RS s2 3 X.1 := hR.fr F2 (by omega)
  refine ⟨s3, ?_, F3, hR.fr F3 (by omega), fun p hp => ?_, addP_VX hV hq hx hl⟩
  · have w1 : sI (M h s) (h + 12) (i32 ((q : Int) * 40 + ((X.2 q).2.length : Int))) (i32 (cod x : Int)) = some (M h s1) := by
      rw [s_12 (by omega) (by omega), es1, show ((q : Int) * 40 + ((X.2 q).2.length : Int)).toNat = q * 40 + (X.2 q).2.length by omega]
    have w2 : sI (M h s1) (h + 11) (i32 (q : Int)) (i32 (((X.2 q).2.length : Int) + 1)) = some (M h s2) := by
      rw [s_11 (by omega) (by omega), es2, tn0]; rfl
    have w3 : sL (M h s2) (h + 10) (i32 (q : Int)) (i64 (cw (aft X.1 (nowP X q) x) : Int)) = some (M h s3) := by
      rw [s_10 (by omega) (by omega), es3, tn0]
    unfold fX2_addStep
    rw [g_2_3, sb, a_11 (by omega) (by omega), sb, tn0, p3, if_pos (by rw [q40]; rw [lt32 (by omega) (by omega) (by omega) (by omega)]; omega), g_2_4, sb, sb, a_11 (by omega) (by omega), sb, tn0, p3, q40, m32, a32, w1, sb, g_2_3, sb, a_11 (by omega) (by omega), sb, tn0, b11, q1, a32, w2, sb, g_2_2, sb, g_2_0, sb, sb, a_10 (by omega) (by omega), sb, tn0, b10, o_3, sb, c_after hV.1 hR2 hW hx, sb, w3, sb]
  · show s3.2 9 p = _ ∧ s3.2 10 p = _ ∧ s3.1 11 p = _ ∧ _
    have t9 : s3.2 9 = s.2 9 := F3.L 9 (by decide)
    have t10 : s3.2 10 = vp_updL (s.2 10) q (i64 (cw (aft X.1 (nowP X q) x) : Int)) := by rw [es3, mL_at, es2, es1]; rfl
    have t11 : s3.1 11 = upd (s.1 11) q (i32 (((X.2 q).2.length + 1 : Nat) : Int)) := by rw [es3]; show s2.1 11 = _; rw [es2, mI_at, es1, mI_ne (by decide)]
    have t12 : s3.1 12 = upd (s.1 12) (q * 40 + (X.2 q).2.length) (i32 (cod x : Int)) := by rw [es3]; show s2.1 12 = _; rw [es2, mI_ne (by decide), es1, mI_at]
    rw [t9, t10, t11]
    by_cases c : p = q
    · subst c
      rw [updL_at, upd_at, nowP_add, addP_q]
      refine ⟨p1, rfl, by rw [List.length_append]; rfl, fun k hk => ?_⟩
      show s3.1 12 (p * 40 + k) = _
      rw [t12]
      rw [List.length_append] at hk
      have hk : k < (X.2 p).2.length + 1 := hk
      by_cases c2 : k = (X.2 p).2.length
      · subst c2
        rw [upd_at, getD_app2]
      · rw [upd_ne (by omega), getD_app1 (by omega)]; exact p4 k (by omega)
    · obtain ⟨q1', q2', q3', q4'⟩ := hP p hp
      have h40 := (hV.2 p hp).2
      rw [updL_ne c, upd_ne c, nowP_addn c, addP_n c]
      refine ⟨q1', q2', q3', fun k hk => ?_⟩
      show s3.1 12 (p * 40 + k) = _
      rw [t12, upd_ne (by omega)]; exact q4' k hk
/-- all places begin anew -/
def allP (S : Sys) (W : Nat → List Nat) : Snap := (S, fun p => (W p, []))
theorem allP_VX {S : Sys} (hS : WfS S) {W : Nat → List Nat} (hW : ∀ p, p < 6 → Wk S.1 (W p)) : VX (allP S W) := ⟨hS, fun p hp => ⟨⟨hW p hp, fun k hk => absurd hk (by show ¬ k < 0; omega)⟩, by show 0 ≤ 40; omega⟩⟩
theorem nowP_all {S : Sys} {W : Nat → List Nat} {p : Nat} : nowP (allP S W) p = W p := rfl
theorem PX_all {S : Sys} {W : Nat → List Nat} (h1 : ∀ p, p < 6 → s.2 9 p = i64 (cw (W p) : Int) ∧ s.2 10 p = i64 (cw (W p) : Int) ∧ s.1 11 p = 0) : PX s 2 (allP S W) := fun p hp => ⟨(h1 p hp).1, (h1 p hp).2.1, (h1 p hp).2.2, fun k hk => absurd hk (by show ¬ k < 0; omega)⟩
theorem c_beginAll {W : Nat → List Nat} (hN : ∀ p, p < 6 → s.2 10 p = i64 (cw (W p) : Int)) : ∃ s', fX2_beginAll (M h s) (h + 2) = some (M h s') ∧ Fr 9 11 s s' ∧ ∀ p, p < 6 → s'.2 9 p = i64 (cw (W p) : Int) ∧ s'.2 10 p = i64 (cw (W p) : Int) ∧ s'.1 11 p = 0 := by
  have key : ∃ y, iterP (fLX2_beginAll_2 (h + 2)) (0, M h s) = some y ∧ ∃ s', y = M h s' ∧ Fr 9 11 s s' ∧ ∀ p, p < 6 → s'.2 9 p = i64 (cw (W p) : Int) ∧ s'.2 10 p = i64 (cw (W p) : Int) ∧ s'.1 11 p = 0 := by
    refine loop_ex (fun k x => ∃ s', x = (i32 (k : Int), M h s') ∧ Fr 9 11 s s' ∧ (∀ p, p < 6 → s'.2 10 p = i64 (cw (W p) : Int)) ∧ ∀ p, p < k → s'.2 9 p = i64 (cw (W p) : Int) ∧ s'.1 11 p = 0) _ 6 (fun k x hk hx => ?_) (fun x hx => ?_) ⟨s, rfl, Fr.rf, hN, fun p hp => absurd hp (by omega)⟩
    · obtain ⟨s1, rfl, f1, f2, f3⟩ := hx
      refine ⟨(i32 ((k + 1 : Nat) : Int), M h (bgM s1 k (i64 (cw (W k) : Int)))), ?_, _, rfl, f1.tr bgM_fr, fun p hp => ?_, fun p hp => ?_⟩
      · unfold fLX2_beginAll_2
        simp only []
        rw [if_neg (by rw [q6]; rw [le32 (by omega) (by omega) (by omega) (by omega)]; omega), g_2_2, sb, a_10 (by omega) (by omega), sb, tn0, f2 k hk, o_2, sb, c_beginM hk, sb, xlet_eq, q1, a32]; rfl
      · rw [bgM_10]
        by_cases c : p = k
        · subst c; rw [updL_at]
        · rw [updL_ne c]; exact f2 p hp
      · rw [bgM_9, bgM_11]
        by_cases c : p = k
        · subst c; rw [updL_at, upd_at]; exact ⟨rfl, rfl⟩
        · rw [updL_ne c, upd_ne c]; exact f3 p (by omega)
    · obtain ⟨s1, rfl, f1, f2, f3⟩ := hx
      refine ⟨M h s1, ?_, s1, rfl, f1, fun p hp => ⟨(f3 p hp).1, f2 p hp, (f3 p hp).2⟩⟩
      unfold fLX2_beginAll_2
      simp only []
      rw [if_pos (by rw [q6]; rw [le32 (by omega) (by omega) (by omega) (by omega)]; omega)]
  obtain ⟨y, e1, s', rfl, f1⟩ := key
  refine ⟨s', ?_, f1⟩
  unfold fX2_beginAll
  rw [e1, sb]
theorem c_emptyPl : ∃ s', fX2_emptyPlaces (M h s) (h + 2) = some (M h s') ∧ Fr 9 11 s s' ∧ ∀ p, p < 6 → s'.2 9 p = 0 ∧ s'.2 10 p = 0 ∧ s'.1 11 p = 0 := by
  have key : ∃ y, iterP (fLX2_emptyPlaces_2 (h + 2)) (0, M h s) = some y ∧ ∃ s', y = M h s' ∧ Fr 9 11 s s' ∧ ∀ p, p < 6 → s'.2 9 p = 0 ∧ s'.2 10 p = 0 ∧ s'.1 11 p = 0 := by
    refine loop_ex (fun k x => ∃ s', x = (i32 (k : Int), M h s') ∧ Fr 9 11 s s' ∧ ∀ p, p < k → s'.2 9 p = 0 ∧ s'.2 10 p = 0 ∧ s'.1 11 p = 0) _ 6 (fun k x hk hx => ?_) (fun x hx => ?_) ⟨s, rfl, Fr.rf, fun p hp => absurd hp (by omega)⟩
    · obtain ⟨s1, rfl, f1, f3⟩ := hx
      refine ⟨(i32 ((k + 1 : Nat) : Int), M h (bgM s1 k 0)), ?_, _, rfl, f1.tr bgM_fr, fun p hp => ?_⟩
      · unfold fLX2_emptyPlaces_2
        simp only []
        rw [if_neg (by rw [q6]; rw [le32 (by omega) (by omega) (by omega) (by omega)]; omega), o_2, sb, c_beginM hk, sb, xlet_eq, q1, a32]; rfl
      · rw [bgM_9, bgM_10, bgM_11]
        by_cases c : p = k
        · subst c; rw [updL_at, updL_at, upd_at]; exact ⟨rfl, rfl, rfl⟩
        · rw [updL_ne c, updL_ne c, upd_ne c]; exact f3 p (by omega)
    · obtain ⟨s1, rfl, f1, f3⟩ := hx
      refine ⟨M h s1, ?_, s1, rfl, f1, f3⟩
      unfold fLX2_emptyPlaces_2
      simp only []
      rw [if_pos (by rw [q6]; rw [le32 (by omega) (by omega) (by omega) (by omega)]; omega)]
  obtain ⟨y, e1, s', rfl, f1⟩ := key
  refine ⟨s', ?_, f1⟩
  unfold fX2_emptyPlaces
  rw [e1, sb]
end PL
