/-! CALLS that change: tidy -/
section TY
variable {h : Nat} {s s' : Mm} {g g' : Gst} {N : Nat}
def CW (s : Mm) (g : Gst) : Prop := ACT s g.2.1 ∧ KPc s g.2.2.1 ∧ TPc s g.2.2.2.1 ∧ s.1 0 2 = i32 g.2.2.2.2.1 ∧ SDc s g.2.2.2.2.2 ∧ ∃ a b, AS s a b
theorem CV.cw (hC : CV s N g) : CW s g := ⟨hC.2.1, hC.2.2.1, hC.2.2.2.1, hC.2.2.2.2.1, hC.2.2.2.2.2.1, hC.2.2.2.2.2.2.2⟩
theorem CW.fr {lo hi : Nat} (hC : CW s g) (hf : Fr lo hi s s') (hl : (3 ≤ lo ∧ hi ≤ 12) ∨ (253 ≤ lo ∧ hi ≤ 271)) : CW s' g := by
  obtain ⟨h1, h2, h3, h4, h5, a, b, h6⟩ := hC
  exact ⟨h1.fr hf (by omega), h2.fr hf (by omega), h3.fr hf (by omega), by rw [hf.I 0 (by omega)]; exact h4, h5.fr hf (by omega) (by omega), a, b, h6.fr hf (by omega)⟩
theorem CW.cv {X : Snap} (hC : CW s g) (hX : DX s 2 X) (hc : CCH s N X.1) : CV s N (X, g.2) := ⟨hX, hC.1, hC.2.1, hC.2.2.1, hC.2.2.2.1, hC.2.2.2.2.1, hc, hC.2.2.2.2.2⟩
theorem split2 (hi : ∀ i, ¬ (3 ≤ i ∧ i ≤ 5) → ¬ (253 ≤ i ∧ i ≤ 255) → s'.1 i = s.1 i ∧ s'.2 i = s.2 i) : ∃ t : Mm, Fr 3 5 s t ∧ Fr 253 255 t s' := by
  refine ⟨(fun i => if i < 100 then s'.1 i else s.1 i, fun i => if i < 100 then s'.2 i else s.2 i), fun i h1 => ?_, fun i h1 => ?_⟩
  · show (if i < 100 then s'.1 i else s.1 i) = s.1 i ∧ (if i < 100 then s'.2 i else s.2 i) = s.2 i
    by_cases c : i < 100
    · rw [if_pos c, if_pos c]; exact hi i h1 (by omega)
    · rw [if_neg c, if_neg c]; exact ⟨rfl, rfl⟩
  · show s'.1 i = (if i < 100 then s'.1 i else s.1 i) ∧ s'.2 i = (if i < 100 then s'.2 i else s.2 i)
    by_cases c : i < 100
    · rw [if_pos c, if_pos c]; exact ⟨rfl, rfl⟩
    · rw [if_neg c, if_neg c]; exact hi i (by omega) h1
def tdF (S : Sys) : Sys := (rng 0 (nr (drpF 12 S).1)).foldl (fun S r => setR S r (runS S 0 (rr S r)).2.2.1) (drpF 12 S).1
theorem fold_1 : ∀ (l : List Nat) (S : Sys), (l.foldl (fun S r => setR S r (runS S 0 (rr S r)).2.2.1) S).1 = S.1 := by
  intro l
  induction l with
  | nil => intro S; rfl
  | cons x l ih => intro S; rw [List.foldl_cons, ih]; rfl
theorem tdF_1 {S : Sys} (hS : WfS S) : (tdF S).1 = S.1 := by
  unfold tdF
  rw [fold_1]
  exact (drpF_wf 12 hS).2.2
theorem tdF_same {S : Sys} (h1 : (drpF 12 S).2 = 0) (h2 : nr (drpF 12 S).1 = 0) : tdF S = S := by
  have e : (drpF 12 S).1 = S := by
    rw [drpF] at h1 ⊢
    cases hi : idl S with
    | none => rfl
    | some r => rw [hi] at h1; exact absurd h1 (by simp)
  unfold tdF
  rw [h2, e]
  rfl
def tyR (g : Gst) : Gst × Int := if flS g.1.1 = nr g.1.1 then ((allP (tdF g.1.1) (nowP g.1), psh g.2.1 g.1, g.2.2), ((drpF 12 g.1.1).2 : Int)) else (g, -1)
theorem kc_tidy (hI : Inv s N g) : ∃ s1, fX11_tidy (M h s) (h + 0) = some (i32 (tyR g).2, M h s1) ∧ CV s1 (N + 100) (tyR g).1 ∧ RV s1 g := by
  have hV := hI.1.wf
  have hN := hI.2.2.2
  have h12 := hV.1.2.1
  have hfl := flS_le (S := g.1.1)
  unfold tyR
  by_cases c1 : flS g.1.1 = nr g.1.1
  · rw [if_pos c1]
    obtain ⟨s1, e1, f1, k1⟩ := c_keepV (h := h) hI.1
    obtain ⟨ch, m1, m2, -⟩ := k1.2.2.2.2.2.2.1
    obtain ⟨s2, e2, r2, f2, z2, y2⟩ := c_dropCovered (h := h) hV.1 k1.rs m2
    obtain ⟨w1, w2, w3⟩ := drpF_wf 12 hV.1
    have h12' := w1.2.1
    obtain ⟨s3, e3, r3, f3, z3, y3, w4⟩ := c_rights (h := h) (nr (drpF 12 g.1.1).1) 0 (drpF 12 g.1.1).1 s2 _ (by omega) w1 r2 z2 (i32 ((drpF 12 g.1.1).2 : Int))
    obtain ⟨t, ft1, ft2⟩ := split2 f3
    have hnow : ∀ p, p < 6 → s3.2 10 p = i64 (cw (nowP g.1 p) : Int) := fun p hp => by
      rw [ft2.L 10 (by omega), ft1.L 10 (by omega), f2.L 10 (by omega)]
      exact (k1.1.2.1 p hp).2.1
    obtain ⟨s4, e4, f4, b4⟩ := c_beginAll (h := h) hnow
    have hw : ∀ p, p < 6 → Wk (tdF g.1.1).1 (nowP g.1 p) := fun p hp => by rw [tdF_1 hV.1]; exact nowP_Wk hV hp
    have hX : DX s4 2 (allP (tdF g.1.1) (nowP g.1)) := ⟨r3.fr f4 (by omega), PX_all b4, allP_VX w4 hw⟩
    have cw4 : CW s4 (g.1, psh g.2.1 g.1, g.2.2) := ((((k1.cw.fr f2 (by omega)).fr ft1 (by omega)).fr ft2 (by omega)).fr f4 (by omega))
    have g36 : s4.1 3 6 = i32 ((ch + (drpF 12 g.1.1).2 + nr (drpF 12 g.1.1).1 : Nat) : Int) := by rw [f4.I 3 (by omega)]; exact z3
    have g38 : s4.1 3 8 = s1.1 3 8 := by rw [f4.I 3 (by omega), y3 8 (by decide), y2 8 (by decide) (by decide)]
    have hcell : ∀ i, 256 ≤ i → s4.1 i = s1.1 i ∧ s4.2 i = s1.2 i := fun i hi => ⟨by rw [f4.I i (by omega), ft2.I i (by omega), ft1.I i (by omega), f2.I i (by omega)], by rw [f4.L i (by omega), ft2.L i (by omega), ft1.L i (by omega), f2.L i (by omega)]⟩
    have hcc : CCH s4 (N + 100) (tdF g.1.1) := by
      by_cases c2 : (drpF 12 g.1.1).2 + nr (drpF 12 g.1.1).1 = 0
      · rw [tdF_same (by omega) (by omega)]
        obtain ⟨ch', k2, k3, k4, k5, k6, k7, k8⟩ := k1.2.2.2.2.2.2.1
        have ech : ch' = ch := by
          have := k3.symm.trans m2
          rw [eq32 (by omega) (by omega) (by omega) (by omega)] at this
          omega
        subst ech
        have e8 : s4.1 8 = s1.1 8 := by rw [f4.I 8 (by omega), ft2.I 8 (by omega), ft1.I 8 (by omega), f2.I 8 (by omega)]
        have fx : ∃ u : Mm, Fr 0 255 s1 u ∧ u = s4 := ⟨s4, fun i hi => hcell i (by omega), rfl⟩
        obtain ⟨u, fu, rfl⟩ := fx
        obtain ⟨c', l1, l2, l3⟩ := k8
        exact ⟨ch', by omega, by rw [g36]; congr 1; omega, k4.fr fu (by omega), k5.fr fu (by omega), k6.fr fu (by omega), k7.fr fu (by omega), ⟨c', l1, by rw [g38]; exact l2, fun h9 => by rw [e8]; exact l3 h9⟩⟩
      · refine k1.2.2.2.2.2.2.1.bump (fun i x y => (hcell i x).1) g38 (fun ch' x y => ?_)
        have ech : ch' = ch := by
          have := y.symm.trans m2
          rw [eq32 (by omega) (by omega) (by omega) (by omega)] at this
          omega
        subst ech
        exact ⟨_, by omega, by omega, g36⟩
    have hR4 : RV s4 g := ((((hI.2.1.cls f1 (by omega)).cls f2 (by omega)).cls ft1 (by omega)).cls ft2 (by omega)).cls f4 (by omega)
    refine ⟨s4, ?_, cw4.cv hX hcc, hR4⟩
    unfold fX11_tidy
    have e3' : iterP (fLX11_tidy_49 (h + 0) (i32 ((drpF 12 g.1.1).2 : Int))) (0, M h s2) = some (M h s3) := e3
    rw [g_0_3, sb, g_2_0, sb, o_3, sb, c_falling hV.1 hI.1.rs, sb, sb, g_2_0, sb, g_3_1, sb, hI.1.rs.2.1, if_pos (by rw [le32 (by omega) (by omega) (by omega) (by omega)]; omega), g_0_6, sb, sb, o_24, sb, e1, sb, g_0_3, sb, g_2_0, sb, o_3, sb, e2, sb]
    simp only []
    rw [e3', sb, g_0_3, sb, o_2, sb, e4, sb]
  · rw [if_neg c1]
    refine ⟨s, ?_, hI.1.mono (by omega), hI.2.1⟩
    unfold fX11_tidy
    rw [g_0_3, sb, g_2_0, sb, o_3, sb, c_falling hV.1 hI.1.rs, sb, sb, g_2_0, sb, g_3_1, sb, hI.1.rs.2.1, if_neg (by rw [le32 (by omega) (by omega) (by omega) (by omega)]; omega)]
    rfl
theorem r_putsR {q : Nat} (hq : q < 6) (v : Int64) : ∃ f, fX12_puts (M h s) (h + 308) (i32 (q : Int)) v = some (M h (mL s 309 f)) ∧ f (36 + 43 * q) = v ∧ f (36 + 43 * q + 1) = v ∧ f (36 + 43 * q + 2) = 0 ∧ ∀ j, ¬ (36 + 43 * q ≤ j ∧ j < 36 + 43 * q + 43) → f j = s.2 309 j := by
  have w0 : ∀ (f : Nat → Int64) (e : Nat) (v : Int64), e < 294 → sL (M h (mL s 309 f)) (h + 309) (i32 (e : Int)) v = some (M h (mL s 309 (vp_updL f e v))) := fun f e v h2 => by
    rw [s_309 (by omega) (by omega), mL_at, mL_mL, tn0]
  obtain ⟨f1, ef1⟩ : ∃ f1, f1 = vp_updL (vp_updL (vp_updL (s.2 309) (36 + 43 * q + 0) v) (36 + 43 * q + 1) v) (36 + 43 * q + 2) 0 := ⟨_, rfl⟩
  have hloop : ∃ y, iterP (fLX12_puts_36 (h + 308) (i32 (q : Int))) (0, M h (mL s 309 f1)) = some y ∧ ∃ f, y = M h (mL s 309 f) ∧ ∀ j, ¬ (36 + 43 * q + 3 ≤ j ∧ j < 36 + 43 * q + 43) → f j = f1 j := by
    refine loop_ex (fun k x => ∃ f, x = (i32 (k : Int), M h (mL s 309 f)) ∧ ∀ j, ¬ (36 + 43 * q + 3 ≤ j ∧ j < 36 + 43 * q + 43) → f j = f1 j) _ 40 (fun k x hk hx => ?_) (fun x hx => ?_) ⟨f1, rfl, fun j _ => rfl⟩
    · obtain ⟨f, rfl, g1⟩ := hx
      refine ⟨(i32 ((k + 1 : Nat) : Int), M h (mL s 309 (vp_updL f (36 + 43 * q + (3 + k)) 0))), ?_, _, rfl, fun j hj => by rw [updL_ne (by omega)]; exact g1 j hj⟩
      unfold fLX12_puts_36
      simp only []
      rw [if_neg (by rw [q40]; rw [le32 (by omega) (by omega) (by omega) (by omega)]; omega), g_308_1, sb, q3, a32, show i32 ((3 : Int) + (k : Int)) = i32 (((3 + k : Nat)) : Int) from rfl, r_pl, sb, w0 _ _ _ (by omega), sb, xlet_eq, q1, a32]; rfl
    · obtain ⟨f, rfl, g1⟩ := hx
      refine ⟨_, ?_, f, rfl, g1⟩
      unfold fLX12_puts_36
      simp only []
      rw [if_pos (by rw [q40]; rw [le32 (by omega) (by omega) (by omega) (by omega)]; omega)]
  obtain ⟨y, e1, f, rfl, g1⟩ := hloop
  refine ⟨f, ?_, ?_, ?_, ?_, fun j hj => ?_⟩
  · unfold fX12_puts
    have hid : ∀ x, sL (M h s) (h + 309) (i32 ((36 + 43 * q + 0 : Nat) : Int)) x = some (M h (mL s 309 (vp_updL (s.2 309) (36 + 43 * q + 0) x))) := fun x => by
      rw [s_309 (by omega) (by omega), tn0]
    rw [g_308_1, sb, show (0 : Int32) = i32 ((0 : Nat) : Int) from rfl, r_pl, sb, hid, sb, g_308_1, sb, show (1 : Int32) = i32 ((1 : Nat) : Int) from q1, r_pl, sb, w0 _ _ _ (by omega), sb, g_308_1, sb, show (2 : Int32) = i32 ((2 : Nat) : Int) from q2, r_pl, sb, w0 _ _ _ (by omega), sb, ← ef1]
    have e1' : iterP (fLX12_puts_36 (h + 308) (i32 (q : Int))) (i32 ((0 : Nat) : Int), M h (mL s 309 f1)) = some (M h (mL s 309 f)) := e1
    rw [e1', sb]
  · rw [g1 _ (by omega), ef1, updL_ne (by omega), updL_ne (by omega)]
    exact updL_at
  · rw [g1 _ (by omega), ef1, updL_ne (by omega)]
    exact updL_at
  · rw [g1 _ (by omega), ef1]
    exact updL_at
  · rw [g1 j (by omega), ef1, updL_ne (by omega), updL_ne (by omega), updL_ne (by omega)]
theorem RR.c36 {f f' : Nat → Int64} {S : Sys} (hS : WfS S) (hR : RR f S) (hf : ∀ j, j < 36 → f' j = f j) : RR f' S := by
  obtain ⟨r1, r2, r3, r4, r5, r6'⟩ := hR
  have h12 := hS.2.1
  have hK := hS.1.2
  refine ⟨by rw [hf _ (by omega)]; exact r1, by rw [hf _ (by omega)]; exact r2, fun x hx => by rw [hf _ (by omega)]; exact r3 x hx, fun k hk => ?_, fun r hr => by rw [hf _ (by omega)]; exact r5 r hr, fun r hr => by rw [hf _ (by omega)]; exact r6' r hr⟩
  obtain ⟨y, y1, y2, y3⟩ := r4 k hk
  exact ⟨y, y1, by rw [hf _ (by omega)]; exact y2, y3⟩
theorem r_all {F : Nat → Int64} {S : Sys} (hS : WfS S) (hR : RR F S) {W : Nat → List Nat} (hw : ∀ p, p < 6 → Wk S.1 (W p)) (hF : ∀ p, p < 6 → F (36 + 43 * p) = i64 (r6 (W p) : Int)) (x1 : Int32) : ∃ o, iterP (fLX12_tidy_87 (h + 308) x1) (0, M h (mL s 309 F)) = some o ∧ ∃ f, o = M h (mL s 309 f) ∧ RX f (allP S W) := by
  refine loop_ex (fun k x => ∃ f, x = (i32 (k : Int), M h (mL s 309 f)) ∧ (∀ j, j < 36 → f j = F j) ∧ (∀ p, p < 6 → f (36 + 43 * p) = i64 (r6 (W p) : Int)) ∧ ∀ p, p < k → f (36 + 43 * p + 1) = i64 (r6 (W p) : Int) ∧ f (36 + 43 * p + 2) = 0) _ 6 (fun k x hk hx => ?_) (fun x hx => ?_) ⟨F, rfl, fun _ _ => rfl, hF, fun p hp => absurd hp (by omega)⟩
  · obtain ⟨f, rfl, f1, f2, f3⟩ := hx
    obtain ⟨f', e1, p1, p2, p3, p4⟩ := r_putsR (h := h) (s := mL s 309 f) hk (i64 (r6 (W k) : Int))
    rw [mL_mL] at e1
    have p4' : ∀ j, ¬ (36 + 43 * k ≤ j ∧ j < 36 + 43 * k + 43) → f' j = f j := fun j hj => by rw [p4 j hj, mL_at]
    have ew : fX12_wordAt (M h (mL s 309 f)) (h + 308) (i32 (k : Int)) = some (i64 (r6 (W k) : Int)) := by
      unfold fX12_wordAt
      rw [g_308_1, sb, show (0 : Int32) = i32 ((0 : Nat) : Int) from rfl, r_pl, sb, a_309 (by omega) (by omega), sb, tn0, mL_at]
      exact congrArg some (f2 k hk)
    refine ⟨(i32 ((k + 1 : Nat) : Int), M h (mL s 309 f')), ?_, f', rfl, fun j hj => by rw [p4' j (by omega)]; exact f1 j hj, fun p hp => ?_, fun p hp => ?_⟩
    · unfold fLX12_tidy_87
      simp only []
      rw [if_neg (by rw [q6]; rw [le32 (by omega) (by omega) (by omega) (by omega)]; omega), o_308, sb, ew, sb, sb, e1, sb, xlet_eq, q1, a32]
      rfl
    · by_cases c : p = k
      · subst c; exact p1
      · rw [p4' _ (by omega)]; exact f2 p hp
    · by_cases c : p = k
      · subst c; exact ⟨p2, p3⟩
      · rw [p4' _ (by omega), p4' _ (by omega)]; exact f3 p (by omega)
  · obtain ⟨f, rfl, f1, f2, f3⟩ := hx
    refine ⟨M h (mL s 309 f), ?_, f, rfl, hR.c36 hS f1, fun q hq => ⟨⟨(f3 q hq).1, (f3 q hq).2, fun k hk => absurd hk (by show ¬ k < 0; omega), by show 0 ≤ 40; omega⟩, f2 q hq⟩, allP_VX hS hw⟩
    unfold fLX12_tidy_87
    simp only []
    rw [if_pos (by rw [q6]; rw [le32 (by omega) (by omega) (by omega) (by omega)]; omega)]
theorem runS_wk {S : Sys} (hS : WfS S) {w : List Nat} (hw : Wk S.1 w) {y : Nat} : Wk S.1 (runS S y w).2.2.1 := by
  obtain ⟨-, h2, -, h4⟩ := runS_ch (S := S) (way := y) hw
  rw [h4]
  exact dvW_all hS h2
theorem fold_wf : ∀ (l : List Nat) (S : Sys), WfS S → (∀ r ∈ l, r < nr S) → WfS (l.foldl (fun S r => setR S r (runS S 0 (rr S r)).2.2.1) S) := by
  intro l
  induction l with
  | nil => intro S hS _; exact hS
  | cons x l ih =>
    intro S hS hl
    have hx := hl x List.mem_cons_self
    rw [List.foldl_cons]
    exact ih _ (setR_wf hS hx (runS_wk hS (hS.2.2.1 x hx).2.1)) (fun r hr => by rw [setR_nr]; exact hl r (List.mem_cons_of_mem _ hr))
theorem kr_tidy (hR : RV s g) : ∃ s2, fX12_tidy (M h s) (h + 308) = some (i32 (tyR g).2, M h s2) ∧ Fr 308 338 s s2 ∧ RV s2 (tyR g).1 := by
  have hV := hR.1.2.2
  have h12 := hV.1.2.1
  have hfl := flS_le (S := g.1.1)
  have hR0 : RV (thr s 0) g := (rv_thr hR)
  unfold fX12_tidy tyR
  rw [w_thr, sb, o_308, sb, r_falling hV.1 hR0.row, sb, sb, r_rules hR0.row, sb]
  by_cases c1 : flS g.1.1 = nr g.1.1
  · rw [if_pos (by rw [le32 (by omega) (by omega) (by omega) (by omega)]; omega), if_pos c1]
    obtain ⟨s1, e1, f1, r1, z2, z3, z4⟩ := r_keepV (h := h) hR0
    obtain ⟨F, e2, q1', q2'⟩ := r_dropLoop (h := h) 12 g.1.1 s1 0 h12 (by omega) hV.1 r1.row
    obtain ⟨w1, w2, w3⟩ := drpF_wf 12 hV.1
    have q1'' : RR ((mL s1 309 F).2 309) (drpF 12 g.1.1).1 := by rw [mL_at]; exact q1'
    obtain ⟨s3, G, e3, f3, q3, q4⟩ := r_rights (h := h) (nr (drpF 12 g.1.1).1) 0 (drpF 12 g.1.1).1 (mL s1 309 F) (by omega) w1 q1'' (i32 ((0 + (drpF 12 g.1.1).2 : Nat) : Int))
    have w4 : WfS (tdF g.1.1) := fold_wf _ _ w1 (fun r hr => (mem_rng.1 hr).2)
    have hw : ∀ p, p < 6 → Wk (tdF g.1.1).1 (nowP g.1 p) := fun p hp => by rw [tdF_1 hV.1]; exact nowP_Wk hV hp
    have hG : ∀ p, p < 6 → G (36 + 43 * p) = i64 (r6 (nowP g.1 p) : Int) := fun p hp => by
      rw [q4 _ (by omega), mL_at, q2' _ (by omega)]
      exact (r1.1.2.1 p hp).2
    obtain ⟨_, e4, f, rfl, hX⟩ := r_all (h := h) (s := s3) w4 q3 hw hG (i32 ((0 + (drpF 12 g.1.1).2 : Nat) : Int))
    have e2' : iterP (fLX12_tidy_29 (h + 308)) (0, i32 (natO (idl g.1.1)), M h s1) = some (i32 ((0 + (drpF 12 g.1.1).2 : Nat) : Int), M h (mL s1 309 F)) := e2
    have e3' : iterP (fLX12_tidy_52 (h + 308) (i32 ((0 + (drpF 12 g.1.1).2 : Nat) : Int))) (0, M h (mL s1 309 F)) = some (M h (mL s3 309 G)) := e3
    have hf : Rf [16, 17, 19, 23, 24] [18] 314 316 (mL s1 309 f) (mL s3 309 f) := by
      refine ⟨fun i a b => ⟨(f3.1 i a b).1, ?_⟩, f3.2.1, fun j hj => ?_⟩
      · by_cases c : i = 309
        · subst c; rw [mL_at, mL_at]
        · rw [mL_ne c, mL_ne c, (f3.1 i a b).2, mL_ne c]
      · rw [mL_ne (by decide), mL_ne (by decide), f3.2.2 j hj, mL_ne (by decide)]
    have r4 : RV (mL s3 309 f) (allP (tdF g.1.1) (nowP g.1), psh g.2.1 g.1, g.2.2) := (r1.put hX).rf hf (by omega) (by decide) (by decide) (by decide) (by decide) (by decide)
    refine ⟨mL s3 309 f, ?_, ((thr_fr (k := 0)).tr f1).tr (put_fr.tr (hf.to (by omega))), r4⟩
    rw [sb, e1, sb, o_308, sb, r_idle hV.1 r1.row, sb, e2', sb]
    simp only []
    rw [e3', sb, e4, sb, Nat.zero_add]
  · rw [if_neg (by rw [le32 (by omega) (by omega) (by omega) (by omega)]; omega), if_neg c1]
    exact ⟨thr s 0, rfl, thr_fr, hR0⟩
theorem tyR_ok (hk : okG g) : okG (tyR g).1 := by
  unfold tyR
  split
  · exact hk
  · exact hk
theorem k21 {sx : Nat → Int32} {L : Nat} {i : Int32} (hI : Inv s N g) (hN : N ≤ 900000) : KOK h N (fK21 sx L (h + 0) (h + 308) (h + 339) i (M h s)) := by
  unfold fK21
  rw [o_0, sb]
  exact kstd2 (h := h) (oR := fun σ => fX12_tidy σ (h + 308)) hN (tyR_ok hI.2.2.1) (kc_tidy hI) (fun s1 _ r1 => kr_tidy r1)
end TY
