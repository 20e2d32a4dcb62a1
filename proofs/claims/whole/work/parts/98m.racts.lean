/-! ACTS and places in the reference; places in the class -/
def RX (f : Nat → Int64) (X : Snap) : Prop := RR f X.1 ∧ (∀ q, q < 6 → Pr f q (X.2 q).1 (X.2 q).2 ∧ f (36 + 43 * q) = i64 (r6 (nowP X q) : Int)) ∧ VX X
theorem RX.congr {f g : Nat → Int64} {X : Snap} (hR : RX f X) (hfg : ∀ j, j < 294 → g j = f j) : RX g X := by
  obtain ⟨⟨r1, r2, r3, r4, r5, r6'⟩, hP, hV⟩ := hR
  have h12 := hV.1.2.1
  have hK := hV.1.1.2
  refine ⟨⟨by rw [hfg _ (by omega)]; exact r1, by rw [hfg _ (by omega)]; exact r2, fun x hx => by rw [hfg _ (by omega)]; exact r3 x hx, fun k hk => ?_, fun r hr => by rw [hfg _ (by omega)]; exact r5 r hr, fun r hr => by rw [hfg _ (by omega)]; exact r6' r hr⟩, fun q hq => ?_, hV⟩
  · obtain ⟨y, y1, y2, y3⟩ := r4 k hk
    exact ⟨y, y1, by rw [hfg _ (by omega)]; exact y2, y3⟩
  · obtain ⟨⟨p1, p2, p3, p4⟩, p5⟩ := hP q hq
    refine ⟨⟨by rw [hfg _ (by omega)]; exact p1, by rw [hfg _ (by omega)]; exact p2, fun k hk => by rw [hfg _ (by omega)]; exact p3 k hk, p4⟩, by rw [hfg _ (by omega)]; exact p5⟩
def ACR (s : Mm) (A : List Snap) : Prop := s.1 308 5 = i32 (A.length : Int) ∧ A.length ≤ 20 ∧ ∀ k, k < A.length → RX (fun j => s.2 310 (294 * k + j)) (A.getD k X0)
section RA
variable {h : Nat} {s : Mm} {X : Snap}
theorem r_keepsEnd {A : List Snap} (hA : ACR s A) (hl : A.length < 20) (hX : RX (s.2 309) X) : ∃ s', fJX12_keeps_m_52 (M h s) (h + 308) = some (M h s') ∧ (∀ i, i ≠ 308 → s'.1 i = s.1 i) ∧ (∀ i, i ≠ 310 → s'.2 i = s.2 i) ∧ (∀ j, j ≠ 5 → s'.1 308 j = s.1 308 j) ∧ ACR s' (A ++ [X]) := by
  obtain ⟨a1, a2, a3⟩ := hA
  have ec := r_copies (h := h) (s := s) (a := 309) (b := 310) (p := 0) (q := 294 * A.length) sh_309 sh_310 (by decide) (by decide) (by decide) (by omega) (by decide) (by decide) (by decide)
  obtain ⟨s1, es1⟩ : ∃ s1, s1 = mL s 310 (fun j => if 294 * A.length ≤ j ∧ j < 294 * A.length + 294 then s.2 309 (0 + (j - 294 * A.length)) else s.2 310 j) := ⟨_, rfl⟩
  rw [← es1] at ec
  have b5 : s1.1 308 5 = i32 (A.length : Int) := by rw [es1]; exact a1
  refine ⟨mI s1 308 (upd (s1.1 308) 5 (i32 ((A.length + 1 : Nat) : Int))), ?_, fun i hi => by rw [mI_ne hi, es1]; rfl, fun i hi => by rw [show (mI s1 308 (upd (s1.1 308) 5 (i32 ((A.length + 1 : Nat) : Int)))).2 = s1.2 from rfl, es1, mL_ne hi], fun j hj => by rw [mI_at, upd_ne hj, es1]; rfl, ?_, ?_, fun k hk => ?_⟩
  · unfold fJX12_keeps_m_52
    rw [g_308_1, sb, g_308_2, sb, g_308_5, sb, a1, q294, m32, show i32 ((294 : Int) * (A.length : Int)) = i32 (((294 * A.length : Nat)) : Int) by congr 1, show fX12_copies (M h s) (h + 309) 0 (h + 310) (i32 ((294 * A.length : Nat) : Int)) = _ from ec, sb, g_308_5, sb, b5, q1, a32, w_308_5, sb]; rfl
  · rw [mI_at, upd_at, List.length_append]; rfl
  · rw [List.length_append]; show A.length + 1 ≤ 20; omega
  · have ht : (mI s1 308 (upd (s1.1 308) 5 (i32 ((A.length + 1 : Nat) : Int)))).2 310 = fun j => if 294 * A.length ≤ j ∧ j < 294 * A.length + 294 then s.2 309 (0 + (j - 294 * A.length)) else s.2 310 j := by
      show s1.2 310 = _
      rw [es1, mL_at]
    rw [ht]
    rw [List.length_append] at hk
    have hk : k < A.length + 1 := hk
    by_cases c : k = A.length
    · subst c
      rw [getD_app2]
      refine hX.congr (fun j hj => ?_)
      show (if 294 * A.length ≤ 294 * A.length + j ∧ 294 * A.length + j < 294 * A.length + 294 then s.2 309 (0 + (294 * A.length + j - 294 * A.length)) else _) = _
      rw [if_pos (by omega), show 0 + (294 * A.length + j - 294 * A.length) = j by omega]
    · rw [getD_app1 (by omega)]
      refine (a3 k (by omega)).congr (fun j hj => ?_)
      show (if 294 * A.length ≤ 294 * k + j ∧ 294 * k + j < 294 * A.length + 294 then _ else s.2 310 (294 * k + j)) = _
      rw [if_neg (by omega)]
theorem r_keeps {A : List Snap} (hA : ACR s A) (hX : RX (s.2 309) X) : ∃ s', fX12_keeps (M h s) (h + 308) = some (M h s') ∧ (∀ i, i ≠ 308 → s'.1 i = s.1 i) ∧ (∀ i, i ≠ 310 → s'.2 i = s.2 i) ∧ (∀ j, j ≠ 5 → s'.1 308 j = s.1 308 j) ∧ ACR s' (psh A X) := by
  obtain ⟨a1, a2, a3⟩ := id hA
  unfold fX12_keeps psh
  rw [g_308_5, sb, a1, q20]
  by_cases c : A.length = 20
  · have hloop : iterP (fLX12_keeps_13 (h + 308)) (294, M h s) = some (M h (mL s 310 (fun j => if j < 5586 then s.2 310 (j + 294) else s.2 310 j))) := by
      refine iter_to 5586 (fun m => (i32 ((294 + m : Nat) : Int), M h (mL s 310 (fun j => if j < m then s.2 310 (j + 294) else s.2 310 j)))) ?_ (fun m hm => ?_) ?_
      · refine Prod.ext rfl ?_
        simp only []
        have hid : mL s 310 (fun j => if j < 0 then s.2 310 (j + 294) else s.2 310 j) = s := by
          unfold mL
          refine Prod.ext rfl (funext (fun c => ?_))
          show (if c = 310 then (fun j => if j < 0 then s.2 310 (j + 294) else s.2 310 j) else s.2 c) = s.2 c
          by_cases h9 : c = 310
          · rw [if_pos h9, h9]
            funext j
            rw [if_neg (by omega)]
          · rw [if_neg h9]
        rw [hid]
      · unfold fLX12_keeps_13
        simp only []
        rw [if_neg (by rw [show (5880 : Int32) = i32 5880 from by decide]; rw [le32 (by omega) (by omega) (by omega) (by omega)]; omega), g_308_2, sb, sb, a_310 (by omega) (by omega), sb, mL_at, tn0, if_neg (by omega), q294, s32, s_310 (by omega) (by omega), sb, mL_at, mL_mL, xlet_eq, q1, a32, show (((294 + m : Nat) : Int) - 294).toNat = m by omega]
        refine congrArg (fun F => some (Sum.inl (i32 (((294 + m : Nat) : Int) + 1), M h (mL s 310 F)))) (funext (fun j => ?_))
        by_cases c2 : j = m
        · subst c2
          rw [updL_at, if_pos (by omega), Nat.add_comm]
        · rw [updL_ne c2]
          by_cases c3 : j < m
          · rw [if_pos c3, if_pos (by omega)]
          · rw [if_neg c3, if_neg (by omega)]
      · unfold fLX12_keeps_13
        simp only []
        rw [if_pos (by rw [show (5880 : Int32) = i32 5880 from by decide]; rw [le32 (by omega) (by omega) (by omega) (by omega)]; omega)]
    obtain ⟨s1, es1⟩ : ∃ s1, s1 = mL s 310 (fun j => if j < 5586 then s.2 310 (j + 294) else s.2 310 j) := ⟨_, rfl⟩
    obtain ⟨s2, es2⟩ : ∃ s2, s2 = mI s1 308 (upd (s1.1 308) 5 (i32 ((19 : Nat) : Int))) := ⟨_, rfl⟩
    have b5 : s1.1 308 5 = i32 (A.length : Int) := by rw [es1]; exact a1
    have hA2 : ACR s2 (A.drop 1) := by
      refine ⟨by rw [es2, mI_at, upd_at, List.length_drop, c], by rw [List.length_drop]; omega, fun k hk => ?_⟩
      rw [List.length_drop] at hk
      have ht : s2.2 310 = fun j => if j < 5586 then s.2 310 (j + 294) else s.2 310 j := by rw [es2]; show s1.2 310 = _; rw [es1, mL_at]
      have hg : (A.drop 1).getD k X0 = A.getD (k + 1) X0 := by
        rw [List.getD_eq_getElem?_getD, List.getD_eq_getElem?_getD, List.getElem?_drop, Nat.add_comm]
      rw [ht, hg]
      refine (a3 (k + 1) (by omega)).congr (fun j hj => ?_)
      show (if 294 * k + j < 5586 then s.2 310 (294 * k + j + 294) else _) = s.2 310 (294 * (k + 1) + j)
      rw [if_pos (by omega), show 294 * k + j + 294 = 294 * (k + 1) + j by omega]
    have hX2 : RX (s2.2 309) X := by
      have : s2.2 309 = s.2 309 := by rw [es2]; show s1.2 309 = _; rw [es1, mL_ne (by decide)]
      rw [this]; exact hX
    obtain ⟨s3, e3, g1, g2, g3, g4⟩ := r_keepsEnd (h := h) hA2 (by rw [List.length_drop]; omega) hX2
    rw [if_pos (by rw [c]; rfl), hloop, sb, ← es1, g_308_5, sb, b5, c, if_pos rfl, show (i32 ((20 : Nat) : Int)) - 1 = i32 ((19 : Nat) : Int) from by decide, w_308_5, sb, ← es2, e3]
    refine ⟨s3, rfl, fun i hi => ?_, fun i hi => ?_, fun j hj => ?_, g4⟩
    · rw [g1 i hi, es2, mI_ne hi, es1]; rfl
    · rw [g2 i hi, es2]
      show s1.2 i = _
      rw [es1, mL_ne hi]
    · rw [g3 j hj, es2, mI_at, upd_ne hj, es1]; rfl
  · obtain ⟨s3, e3, g⟩ := r_keepsEnd (h := h) hA (by omega) hX
    rw [if_neg (by rw [eq32 (by omega) (by omega) (by omega) (by omega)]; omega), if_neg c, e3]
    exact ⟨s3, rfl, g⟩
/-! places -/
def begP (X : Snap) (q : Nat) (w : List Nat) : Snap := (X.1, fun p => if p = q then (w, []) else X.2 p)
def addP (X : Snap) (q : Nat) (x : Nat × Nat) : Snap := (X.1, fun p => if p = q then ((X.2 q).1, (X.2 q).2 ++ [x]) else X.2 p)
theorem begP_VX (hV : VX X) {q : Nat} {w : List Nat} (hw : Wk X.1.1 w) : VX (begP X q w) := by
  refine ⟨hV.1, fun p hp => ?_⟩
  show dvOk X.1 (if p = q then (w, []) else X.2 p).1 (if p = q then (w, []) else X.2 p).2 ∧ (if p = q then (w, []) else X.2 p).2.length ≤ 40
  by_cases c : p = q
  · rw [if_pos c]
    exact ⟨⟨hw, fun k hk => absurd hk (by simp)⟩, by simp⟩
  · rw [if_neg c]; exact hV.2 p hp
theorem begP_q {q : Nat} {w : List Nat} : (begP X q w).2 q = (w, []) := if_pos rfl
theorem begP_n {q p : Nat} {w : List Nat} (h9 : p ≠ q) : (begP X q w).2 p = X.2 p := if_neg h9
theorem addP_q {q : Nat} {x : Nat × Nat} : (addP X q x).2 q = ((X.2 q).1, (X.2 q).2 ++ [x]) := if_pos rfl
theorem addP_n {q p : Nat} {x : Nat × Nat} (h9 : p ≠ q) : (addP X q x).2 p = X.2 p := if_neg h9
theorem nowP_beg {q : Nat} {w : List Nat} : nowP (begP X q w) q = w := by unfold nowP; rw [begP_q]; rfl
theorem nowP_begn {q p : Nat} {w : List Nat} (h9 : p ≠ q) : nowP (begP X q w) p = nowP X p := by unfold nowP; rw [begP_n h9]; rfl
theorem nowP_add {q : Nat} {x : Nat × Nat} : nowP (addP X q x) q = aft X.1 (nowP X q) x := by
  unfold nowP
  rw [addP_q]
  unfold dvW
  rw [List.foldl_append]; rfl
theorem nowP_addn {q p : Nat} {x : Nat × Nat} (h9 : p ≠ q) : nowP (addP X q x) p = nowP X p := by unfold nowP; rw [addP_n h9]; rfl
theorem nowP_Wk (hV : VX X) {q : Nat} (hq : q < 6) : Wk X.1.1 (nowP X q) := dvW_all hV.1 (hV.2 q hq).1
theorem addP_VX (hV : VX X) {q : Nat} (hq : q < 6) {x : Nat × Nat} (hx : okS X.1 (nowP X q) x) (hl : (X.2 q).2.length < 40) : VX (addP X q x) := by
  refine ⟨hV.1, fun p hp => ?_⟩
  by_cases c : p = q
  · subst c
    rw [addP_q]
    obtain ⟨d1, d2⟩ := (hV.2 p hp).1
    refine ⟨⟨d1, fun k hk => ?_⟩, by rw [List.length_append]; show _ + 1 ≤ 40; omega⟩
    rw [List.length_append] at hk
    have hk : k < (X.2 p).2.length + 1 := hk
    show okS X.1 (dvW X.1 (X.2 p).1 (((X.2 p).2 ++ [x]).take k)) (((X.2 p).2 ++ [x]).getD k (0, 0))
    by_cases c2 : k = (X.2 p).2.length
    · subst c2
      rw [getD_app2, List.take_left]; exact hx
    · rw [getD_app1 (by omega), List.take_append_of_le_length (by omega)]; exact d2 k (by omega)
  · rw [addP_n c]; exact hV.2 p hp
theorem r_puts (hX : RX (s.2 309) X) {q : Nat} (hq : q < 6) {w : List Nat} (hw : Wk X.1.1 w) : ∃ f, fX12_puts (M h s) (h + 308) (i32 (q : Int)) (i64 (r6 w : Int)) = some (M h (mL s 309 f)) ∧ RX f (begP X q w) := by
  obtain ⟨hR, hP, hV⟩ := hX
  have h12 := hV.1.2.1
  have hK := hV.1.1.2
  have w0 : ∀ (f : Nat → Int64) (e : Nat) (v : Int64), e < 294 → sL (M h (mL s 309 f)) (h + 309) (i32 (e : Int)) v = some (M h (mL s 309 (vp_updL f e v))) := fun f e v h2 => by
    rw [s_309 (by omega) (by omega), mL_at, mL_mL, tn0]
  obtain ⟨f1, ef1⟩ : ∃ f1, f1 = vp_updL (vp_updL (vp_updL (s.2 309) (36 + 43 * q + 0) (i64 (r6 w : Int))) (36 + 43 * q + 1) (i64 (r6 w : Int))) (36 + 43 * q + 2) 0 := ⟨_, rfl⟩
  have hloop : ∃ y, iterP (fLX12_puts_36 (h + 308) (i32 (q : Int))) (0, M h (mL s 309 f1)) = some y ∧ ∃ f, y = M h (mL s 309 f) ∧ ∀ j, ¬ (36 + 43 * q + 3 ≤ j ∧ j < 36 + 43 * q + 43) → f j = f1 j := by
    refine loop_ex (fun k x => ∃ f, x = (i32 (k : Int), M h (mL s 309 f)) ∧ ∀ j, ¬ (36 + 43 * q + 3 ≤ j ∧ j < 36 + 43 * q + 43) → f j = f1 j) _ 40 (fun k x hk hx => ?_) (fun x hx => ?_) ⟨f1, rfl, fun j _ => rfl⟩
    · obtain ⟨f, rfl, g1⟩ := hx
      refine ⟨(i32 ((k + 1 : Nat) : Int), M h (mL s 309 (vp_updL f (36 + 43 * q + (3 + k)) 0))), ?_, _, rfl, fun j hj => by rw [updL_ne (by omega)]; exact g1 j hj⟩
      unfold fLX12_puts_36
      simp only []
      rw [if_neg (by rw [q40]; rw [le32 (by omega) (by omega) (by omega) (by omega)]; omega), g_308_1, sb, q3, a32, show i32 ((3 : Int) + (k : Int)) = i32 (((3 + k : Nat)) : Int) from rfl, r_pl, sb, w0 _ _ _ (by omega), sb, xlet_eq, q1, a32]; rfl
    · obtain ⟨f, rfl, g1⟩ := hx
      refine ⟨_, ?_, f, rfl, g1⟩
      unfold fLX12_puts_36
      simp only []
      rw [if_pos (by rw [q40]; rw [le32 (by omega) (by omega) (by omega) (by omega)]; omega)]
  obtain ⟨y, e1, f, rfl, g1⟩ := hloop
  have hf1 : ∀ j, ¬ (36 + 43 * q ≤ j ∧ j < 36 + 43 * q + 3) → f1 j = s.2 309 j := fun j hj => by rw [ef1, updL_ne (by omega), updL_ne (by omega), updL_ne (by omega)]
  have hfo : ∀ j, ¬ (36 + 43 * q ≤ j ∧ j < 36 + 43 * q + 43) → f j = s.2 309 j := fun j hj => by rw [g1 j (by omega)]; exact hf1 j (by omega)
  refine ⟨f, ?_, ?_, fun p hp => ?_, begP_VX hV hw⟩
  · unfold fX12_puts
    have hid : ∀ x, sL (M h s) (h + 309) (i32 ((36 + 43 * q + 0 : Nat) : Int)) x = some (M h (mL s 309 (vp_updL (s.2 309) (36 + 43 * q + 0) x))) := fun x => by
      rw [s_309 (by omega) (by omega), tn0]
    rw [g_308_1, sb, show (0 : Int32) = i32 ((0 : Nat) : Int) from rfl, r_pl, sb, hid, sb, g_308_1, sb, show (1 : Int32) = i32 ((1 : Nat) : Int) from q1, r_pl, sb, w0 _ _ _ (by omega), sb, g_308_1, sb, show (2 : Int32) = i32 ((2 : Nat) : Int) from q2, r_pl, sb, w0 _ _ _ (by omega), sb, ← ef1]
    have e1' : iterP (fLX12_puts_36 (h + 308) (i32 (q : Int))) (i32 ((0 : Nat) : Int), M h (mL s 309 f1)) = some (M h (mL s 309 f)) := e1
    rw [e1', sb]
  · obtain ⟨r1, r2, r3, r4, r5, r6'⟩ := hR
    refine ⟨by rw [hfo _ (by omega)]; exact r1, by rw [hfo _ (by omega)]; exact r2, fun x hx => by rw [hfo _ (by omega)]; exact r3 x hx, fun k hk => ?_, fun r hr => ?_, fun r hr => ?_⟩
    · obtain ⟨y, y1, y2, y3⟩ := r4 k hk
      have hk : k < X.1.1 := hk
      exact ⟨y, y1, by rw [hfo _ (by omega)]; exact y2, y3⟩
    · have hr : r < nr X.1 := hr
      rw [hfo _ (by omega)]; exact r5 r hr
    · have hr : r < nr X.1 := hr
      rw [hfo _ (by omega)]; exact r6' r hr
  · by_cases c : p = q
    · subst c
      rw [nowP_beg, begP_q]
      refine ⟨⟨?_, ?_, fun k hk => absurd hk (by simp), by simp⟩, ?_⟩
      · rw [g1 _ (by omega), ef1, updL_ne (by omega), updL_at]
      · rw [g1 _ (by omega), ef1, updL_at]; rfl
      · rw [g1 _ (by omega), ef1, updL_ne (by omega), updL_ne (by omega), Nat.add_zero, updL_at]
    · obtain ⟨⟨p1, p2, p3, p4⟩, p5⟩ := hP p hp
      rw [nowP_begn c, begP_n c]
      refine ⟨⟨by rw [hfo _ (by omega)]; exact p1, by rw [hfo _ (by omega)]; exact p2, fun k hk => by rw [hfo _ (by omega)]; exact p3 k hk, p4⟩, by rw [hfo _ (by omega)]; exact p5⟩
theorem r_makes (hX : RX (s.2 309) X) {q : Nat} (hq : q < 6) {x : Nat × Nat} (hx : okS X.1 (nowP X q) x) (hl : (X.2 q).2.length < 40) : ∃ f, fX12_makes (M h s) (h + 308) (i32 (q : Int)) (i32 (x.1 : Int)) (i32 (x.2 : Int)) (i64 (r6 (aft X.1 (nowP X q) x) : Int)) = some (M h (mL s 309 f)) ∧ RX f (addP X q x) := by
  obtain ⟨hR, hP, hV⟩ := hX
  have h12 := hV.1.2.1
  have hK := hV.1.1.2
  have hW := (nowP_Wk hV hq).1
  obtain ⟨o1, o2, o3⟩ := id hx
  obtain ⟨⟨p1, p2, p3, p4⟩, p5⟩ := hP q hq
  have w0 : ∀ (f : Nat → Int64) (e : Nat) (v : Int64), e < 294 → sL (M h (mL s 309 f)) (h + 309) (i32 (e : Int)) v = some (M h (mL s 309 (vp_updL f e v))) := fun f e v h2 => by
    rw [s_309 (by omega) (by omega), mL_at, mL_mL, tn0]
  have hid : ∀ (e : Nat) (x : Int64), e < 294 → sL (M h s) (h + 309) (i32 (e : Int)) x = some (M h (mL s 309 (vp_updL (s.2 309) e x))) := fun e x h2 => by
    rw [s_309 (by omega) (by omega), tn0]
  obtain ⟨f, ef⟩ : ∃ f, f = vp_updL (vp_updL (vp_updL (s.2 309) (36 + 43 * q + (3 + (X.2 q).2.length)) (i64 ((16 * x.2 + x.1 : Nat) : Int))) (36 + 43 * q + 2) (i64 (((X.2 q).2.length + 1 : Nat) : Int))) (36 + 43 * q + 0) (i64 (r6 (aft X.1 (nowP X q) x) : Int)) := ⟨_, rfl⟩
  have hfo : ∀ j, j ≠ 36 + 43 * q + (3 + (X.2 q).2.length) → j ≠ 36 + 43 * q + 2 → j ≠ 36 + 43 * q + 0 → f j = s.2 309 j := fun j a b c => by rw [ef, updL_ne c, updL_ne b, updL_ne a]
  refine ⟨f, ?_, ?_, fun p hp => ?_, addP_VX hV hq hx hl⟩
  · have r2 : (mL s 309 (vp_updL (s.2 309) (36 + 43 * q + (3 + (X.2 q).2.length)) (i64 ((16 * x.2 + x.1 : Nat) : Int)))).2 309 (36 + 43 * q + 2) = i64 ((X.2 q).2.length : Int) := by
      rw [mL_at, updL_ne (by omega)]; exact p2
    unfold fX12_makes
    rw [g_308_1, sb, o_308, sb, r_stepsOf hq ⟨p1, p2, p3, p4⟩, sb, q3, a32, show i32 ((3 : Int) + ((X.2 q).2.length : Int)) = i32 (((3 + (X.2 q).2.length : Nat)) : Int) from rfl, r_pl, sb, toL (by omega) (by omega), toL (by omega) (by omega), show (16 : Int64) = i64 16 from by decide, m64, a64, show i64 ((16 : Int) * (x.2 : Int) + (x.1 : Int)) = i64 ((16 * x.2 + x.1 : Nat) : Int) by congr 1, hid _ _ (by omega), sb, g_308_1, sb, show (2 : Int32) = i32 ((2 : Nat) : Int) from q2, r_pl, sb, a_309 (by omega) (by omega), sb, tn0, r2, show (1 : Int64) = i64 1 from by decide, a64, show i64 (((X.2 q).2.length : Int) + 1) = i64 (((X.2 q).2.length + 1 : Nat) : Int) from rfl, w0 _ _ _ (by omega), sb, g_308_1, sb, show (0 : Int32) = i32 ((0 : Nat) : Int) from rfl, r_pl, sb, w0 _ _ _ (by omega), sb, ← ef]
  · obtain ⟨r1, r2, r3, r4, r5, r6'⟩ := hR
    refine ⟨by rw [hfo _ (by omega) (by omega) (by omega)]; exact r1, by rw [hfo _ (by omega) (by omega) (by omega)]; exact r2, fun x hx => by rw [hfo _ (by omega) (by omega) (by omega)]; exact r3 x hx, fun k hk => ?_, fun r hr => ?_, fun r hr => ?_⟩
    · obtain ⟨y, y1, y2, y3⟩ := r4 k hk
      have hk : k < X.1.1 := hk
      exact ⟨y, y1, by rw [hfo _ (by omega) (by omega) (by omega)]; exact y2, y3⟩
    · have hr : r < nr X.1 := hr
      rw [hfo _ (by omega) (by omega) (by omega)]; exact r5 r hr
    · have hr : r < nr X.1 := hr
      rw [hfo _ (by omega) (by omega) (by omega)]; exact r6' r hr
  · by_cases c : p = q
    · subst c
      rw [nowP_add, addP_q]
      refine ⟨⟨?_, ?_, fun k hk => ?_, by rw [List.length_append]; show _ + 1 ≤ 40; omega⟩, ?_⟩
      · rw [hfo _ (by omega) (by omega) (by omega)]; exact p1
      · rw [ef, updL_ne (by omega), updL_at, List.length_append]; rfl
      · rw [List.length_append] at hk
        have hk : k < (X.2 p).2.length + 1 := hk
        by_cases c2 : k = (X.2 p).2.length
        · subst c2
          rw [getD_app2, ef, updL_ne (by omega), updL_ne (by omega), show 36 + 43 * p + 3 + (X.2 p).2.length = 36 + 43 * p + (3 + (X.2 p).2.length) by omega, updL_at]
        · rw [getD_app1 (by omega), hfo _ (by omega) (by omega) (by omega)]; exact p3 k (by omega)
      · rw [ef]; exact updL_at
    · obtain ⟨⟨p1, p2, p3, p4⟩, p5⟩ := hP p hp
      rw [nowP_addn c, addP_n c]
      refine ⟨⟨by rw [hfo _ (by omega) (by omega) (by omega)]; exact p1, by rw [hfo _ (by omega) (by omega) (by omega)]; exact p2, fun k hk => by rw [hfo _ (by omega) (by omega) (by omega)]; exact p3 k hk, p4⟩, by rw [hfo _ (by omega) (by omega) (by omega)]; exact p5⟩
end RA
