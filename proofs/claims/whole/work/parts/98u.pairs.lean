/-! CALLS that ask: run, came, compare, far, constant, said, free, falls, areKin -/
section PA
variable {h : Nat} {s s' : Mm} {g g' : Gst} {N : Nat}
theorem lB0 {o : Option ((Int32 ⊕ String) × St)} {v : Int} (hv : -2147483648 ≤ v ∧ v ≤ 2147483647) (hx : ∃ s1, o = some (Sum.inl (i32 v), M h s1) ∧ CV s1 (N + 100) g' ∧ RV s1 g) : CA h N g g' ((isO (M h s) (h + 0) 10).bind fun _ => o.bind fun w => (match w with
    | (Sum.inl r, σ) => (sL σ (h + 339) 0 r.toInt64).bind fun σ9 => some (0, σ9)
    | (Sum.inr E, σ) => if E = xNSE then (some (1, σ)) else (if E = xIAE then (some (2, σ)) else (none)))) 0 v := by
  obtain ⟨s1, e1, c1, r1⟩ := hx
  refine ⟨mL s1 339 (vp_updL (s1.2 339) 0 (i64 v)), ?_, c1.work (lo := 339) (hi := 339) (Fr.rf.mL (by decide) (by decide)) (by omega), r1.cls (lo := 339) (hi := 339) (Fr.rf.mL (by decide) (by decide)) (by omega), fun _ => by rw [mL_at, updL_at]⟩
  rw [o_0, sb, e1, sb]
  simp only []
  rw [s_out hv, sb]; rfl
theorem lB1 {o : Option ((Int32 ⊕ String) × St)} {v : Int} (hx : ∃ s1, o = some (Sum.inr xNSE, M h s1) ∧ CV s1 (N + 100) g' ∧ RV s1 g) : CA h N g g' ((isO (M h s) (h + 0) 10).bind fun _ => o.bind fun w => (match w with
    | (Sum.inl r, σ) => (sL σ (h + 339) 0 r.toInt64).bind fun σ9 => some (0, σ9)
    | (Sum.inr E, σ) => if E = xNSE then (some (1, σ)) else (if E = xIAE then (some (2, σ)) else (none)))) 1 v := by
  obtain ⟨s1, e1, c1, r1⟩ := hx
  refine ⟨s1, ?_, c1, r1, fun h9 => absurd h9 (by decide)⟩
  rw [o_0, sb, e1, sb]
  simp only []
  rw [if_pos trivial]; rfl
theorem lB2 {o : Option ((Int32 ⊕ String) × St)} {v : Int} (hx : ∃ s1, o = some (Sum.inr xIAE, M h s1) ∧ CV s1 (N + 100) g' ∧ RV s1 g) : CA h N g g' ((isO (M h s) (h + 0) 10).bind fun _ => o.bind fun w => (match w with
    | (Sum.inl r, σ) => (sL σ (h + 339) 0 r.toInt64).bind fun σ9 => some (0, σ9)
    | (Sum.inr E, σ) => if E = xNSE then (some (1, σ)) else (if E = xIAE then (some (2, σ)) else (none)))) 2 v := by
  obtain ⟨s1, e1, c1, r1⟩ := hx
  refine ⟨s1, ?_, c1, r1, fun h9 => absurd h9 (by decide)⟩
  rw [o_0, sb, e1, sb]
  show (if xIAE = xNSE then some (1, M h s1) else if xIAE = xIAE then some (2, M h s1) else none) = _
  rw [if_neg (by decide), if_pos rfl]; rfl
theorem lZ0 {o : Option ((Int32 ⊕ String) × St)} {v : Int} (hv : v = 0 ∨ v = 1) (hx : ∃ s1, o = some (Sum.inl (i32 v), M h s1) ∧ CV s1 (N + 100) g' ∧ RV s1 g) : CA h N g g' ((isO (M h s) (h + 0) 10).bind fun _ => o.bind fun w => (match w with
    | (Sum.inl r, σ) => if r = 0 then ((sL σ (h + 339) 0 0).bind fun σ9 => some (0, σ9)) else ((sL σ (h + 339) 0 1).bind fun σ9 => some (0, σ9))
    | (Sum.inr E, σ) => if E = xNSE then (some (1, σ)) else (none))) 0 v := by
  obtain ⟨s1, e1, c1, r1⟩ := hx
  refine ⟨mL s1 339 (vp_updL (s1.2 339) 0 (i64 v)), ?_, c1.work (lo := 339) (hi := 339) (Fr.rf.mL (by decide) (by decide)) (by omega), r1.cls (lo := 339) (hi := 339) (Fr.rf.mL (by decide) (by decide)) (by omega), fun _ => by rw [mL_at, updL_at]⟩
  rw [o_0, sb, e1, sb]
  simp only []
  rcases hv with rfl | rfl
  · rw [if_pos (by decide), show (0 : Int64) = (i32 0).toInt64 from by decide, s_out (by omega), sb]; rfl
  · rw [if_neg (by decide), show (1 : Int64) = (i32 1).toInt64 from by decide, s_out (by omega), sb]; rfl
theorem lZ1 {o : Option ((Int32 ⊕ String) × St)} {v : Int} (hx : ∃ s1, o = some (Sum.inr xNSE, M h s1) ∧ CV s1 (N + 100) g' ∧ RV s1 g) : CA h N g g' ((isO (M h s) (h + 0) 10).bind fun _ => o.bind fun w => (match w with
    | (Sum.inl r, σ) => if r = 0 then ((sL σ (h + 339) 0 0).bind fun σ9 => some (0, σ9)) else ((sL σ (h + 339) 0 1).bind fun σ9 => some (0, σ9))
    | (Sum.inr E, σ) => if E = xNSE then (some (1, σ)) else (none))) 1 v := by
  obtain ⟨s1, e1, c1, r1⟩ := hx
  refine ⟨s1, ?_, c1, r1, fun h9 => absurd h9 (by decide)⟩
  rw [o_0, sb, e1, sb]
  simp only []
  rw [if_pos trivial]; rfl
theorem kstdB {oC : Option (Int32 × St)} {oR : St → Option (Int32 × St)} {k : Nat} {v : Int} (hN : N ≤ 900000) (hok : okG g') (hk : k ≤ 2) (hv : v = 0 ∨ v = 1) (hc : CA h N g g' oC k v) (hr : ∀ s1, CV s1 (N + 100) g' → RV s1 g → RA h s1 g' (oR (M h s1)) k v) :
    KOK h N (oC.bind fun w => (isO w.2 (h + 308) 11).bind fun _ => (oR w.2).bind fun w2 => (isO w2.2 (h + 308) 11).bind fun _ => (fX12_thrown w2.2 (h + 308)).bind fun w3 => if w3 = w.1 then (if w.1 = 0 then ((aL w2.2 (h + 339) 0).bind fun v1 => if w2.1 = 0 then (if (lg_cmp v1 0) = 0 then (some w2.2) else (none)) else (if (lg_cmp v1 1) = 0 then (some w2.2) else (none))) else (some w2.2)) else (none)) := by
  obtain ⟨s1, e1, c1, r1, o1⟩ := hc
  obtain ⟨w, s2, e2, f2, r2, t2, w2⟩ := hr s1 c1 r1
  refine ⟨s2, g', ?_, c1.work f2 (Or.inr (Or.inr (Or.inr (by decide)))), r2, hok, by omega⟩
  rw [e1, sb]
  simp only []
  rw [o_308, sb, e2, sb]
  simp only []
  unfold fX12_thrown
  rw [o_308, sb, g_308_0, sb, sb, t2, if_pos rfl]
  by_cases c : k = 0
  · have ea : aL (M h s2) (h + 339) 0 = some (i64 v) := by
      rw [q0, a_339 (by decide) (by decide)]
      have : s2.2 339 0 = i64 v := by rw [f2.L 339 (by decide)]; exact o1 c
      exact congrArg some this
    rw [if_pos (by rw [z32 (by omega)]; exact c), ea, sb, w2 c]
    rcases hv with rfl | rfl
    · rw [if_pos (by decide), show (0 : Int64) = i64 0 from by decide, if_pos (by rw [cmp0])]
    · rw [if_neg (by decide), show (1 : Int64) = i64 1 from by decide, if_pos (by rw [cmp0])]
  · rw [if_neg (by rw [z32 (by omega)]; exact c)]
/-! run -/
theorem runF_b {S : Sys} {way : Nat} : ∀ (n : Nat) (t : List (List Nat)) (c : List (Nat × Nat)) (w : List Nat), (runF S way n t c w).2.2.2 ≤ 2 := by
  intro n
  induction n with
  | zero =>
    intro t c w
    unfold runF
    simp only []
    split
    · omega
    · split <;> omega
  | succ n ih =>
    intro t c w
    unfold runF
    split
    · simp only []; omega
    · split
      · simp only []; omega
      · exact ih _ _ _
def rnV (X : Snap) (a w d : Int) : Nat × Int := if (0 ≤ a ∧ a < 6) ∧ 0 ≤ d ∧ d ≤ 2 then (if 0 ≤ w ∧ w ≤ 2 then (0, if d = 0 then ((runS X.1 w.toNat (nowP X a.toNat)).2.2.2 : Int) else if d = 1 then ((runS X.1 w.toNat (nowP X a.toNat)).2.1.length : Int) else ((runS X.1 w.toNat (nowP X a.toNat)).2.2.1.length : Int)) else (2, 0)) else (1, 0)
theorem rnV_b (hI : Inv s N g) {a w d : Int} : (rnV g.1 a w d).1 ≤ 2 ∧ -2147483648 ≤ (rnV g.1 a w d).2 ∧ (rnV g.1 a w d).2 ≤ 2147483647 := by
  unfold rnV
  have hV := hI.1.wf
  split
  · rename_i c
    split
    · rename_i c2
      obtain ⟨s1, e1, e2, e3, e4⟩ := c_runFrom (h := 0) hV.1 hI.1.rs (nowP_Wk hV (show a.toNat < 6 by omega)) (show w.toNat ≤ 2 by omega)
      have e5 := e3.1
      have e6 := runF_b (S := g.1.1) (way := w.toNat) 60 [] [] (nowP g.1 a.toNat)
      unfold runS at *
      simp only []
      repeat' split
      all_goals omega
    · simp only []; omega
  · simp only []
    omega
noncomputable def fRunT (σ10 : St) (x0 : Nat) (x1 x2 x3 : Int32) : Option ((Int32 ⊕ String) × St) :=
  (gR σ10 x0 10 8).bind fun v14 => (gR σ10 x0 10 3).bind fun v18 => (gR σ10 v18 2 2).bind fun v21 => (aL σ10 v21 x1).bind fun v25 => (isO σ10 v14 9).bind fun _ => (fX9_runFrom σ10 v14 v25 x2).bind fun w27 =>
  if x3 = 0 then ((gR w27.2 x0 10 8).bind fun v37 => (gI w27.2 v37 9 4).bind fun v40 => some (Sum.inl v40, w27.2))
  else (if x3 = ((1 : Int32)) then ((gR w27.2 x0 10 8).bind fun v50 => (gI w27.2 v50 9 3).bind fun v53 => some (Sum.inl v53, w27.2))
  else ((fX10_length w27.1).bind fun w61 => some (Sum.inl w61, w27.2)))
theorem kc_run (hI : Inv s N g) {a w d : Int} (a1 : -2147483648 ≤ a) (a2 : a ≤ 2147483647) (b1 : -2147483648 ≤ w) (b2 : w ≤ 2147483647) (d1 : -2147483648 ≤ d) (d2 : d ≤ 2147483647) : CA h N g g (fL_run (M h s) (h + 0) (i32 a) (i32 w) (i32 d) (h + 339)) (rnV g.1 a w d).1 (rnV g.1 a w d).2 := by
  have hV := hI.1.wf
  have hb := (rnV_b hI (a := a) (w := w) (d := d)).2
  unfold fL_run
  unfold rnV at hb ⊢
  by_cases c1 : 0 ≤ a ∧ a < 6
  · by_cases c2 : 0 ≤ d ∧ d ≤ 2
    · rw [if_pos ⟨c1, c2⟩] at hb ⊢
      have hpre : fX11_run (M h s) (h + 0) (i32 a) (i32 w) (i32 d) = (match (if 0 ≤ w ∧ w ≤ 2 then (Sum.inl (), M h s) else (Sum.inr xIAE, M h s) : (Unit ⊕ String) × St) with
        | (Sum.inl _, σ10) => fRunT σ10 (h + 0) (i32 a) (i32 w) (i32 d)
        | (Sum.inr E10, σ10) => some (Sum.inr E10, σ10)) := by
        unfold fX11_run fRunT
        rw [c_needP a1 a2, sb, if_pos c1]
        simp only []
        rw [show (2 : Int32) = i32 2 from by decide, c_needW d1 d2 (by omega) (by omega), sb, if_pos c2]
        simp only []
        rw [c_needY b1 b2, sb]
        by_cases c3 : 0 ≤ w ∧ w ≤ 2
        · simp only [if_pos c3]
        · simp only [if_neg c3]
      rw [hpre]
      by_cases c3 : 0 ≤ w ∧ w ≤ 2
      · rw [if_pos c3] at hb ⊢
        rw [if_pos c3]
        obtain ⟨q, rfl⟩ := nat_of c1.1
        obtain ⟨y, rfl⟩ := nat_of c3.1
        have hq : q < 6 := by omega
        have hk := nowP_Wk hV hq
        obtain ⟨s1, e1, e2, e3, e4⟩ := c_runFrom (h := h) hV.1 hI.1.rs hk (show y ≤ 2 by omega)
        refine lB0 hb ⟨s1, ?_, (hI.1.work e2.1 (by omega)).mono (by omega), hI.2.1.cls e2.1 (by omega)⟩
        simp only [tn0]
        unfold fRunT
        rw [g_0_8, sb, g_0_3, sb, g_2_2, sb, c_nowAt hI.1 hq, sb, o_253, sb, e1, sb]
        simp only []
        rcases (show d = 0 ∨ d = 1 ∨ d = 2 by omega) with rfl | rfl | rfl
        · rw [if_pos (by decide), g_0_8, sb, g_253_4, sb, e2.2.2.1]; rfl
        · rw [if_neg (by decide), if_pos (by decide), g_0_8, sb, g_253_3, sb, e2.2.1]; rfl
        · rw [if_neg (by decide), if_neg (by decide), c_len (e3.ww hV.1.1.2), sb]; rfl
      · rw [if_neg c3, if_neg c3]
        exact lB2 (hI.self rfl)
    · rw [if_neg (fun h9 => c2 h9.2)]
      refine lB1 (hI.self ?_)
      unfold fX11_run
      rw [c_needP a1 a2, sb, if_pos c1]
      simp only []
      rw [show (2 : Int32) = i32 2 from by decide, c_needW d1 d2 (by omega) (by omega), sb, if_neg c2]
  · rw [if_neg (fun h9 => c1 h9.1)]
    refine lB1 (hI.self ?_)
    unfold fX11_run
    rw [c_needP a1 a2, sb, if_neg c1]
theorem r_isWay {a : Int} (h1 : -2147483648 ≤ a) (h2 : a ≤ 2147483647) : fX12_isWay (i32 a) = some (if 0 ≤ a ∧ a ≤ 2 then 1 else 0) := by
  unfold fX12_isWay
  rw [show (0 : Int64) = i64 0 from by decide, show (2 : Int64) = i64 2 from by decide, in64 h1 h2 (by omega) (by omega), sb, zok01, sb]
theorem r_nayt2 : fX12_right (M h (thr s 0)) (h + 308) 0 2 = some (0, M h (thr s 2)) := by
  rw [show (2 : Int32) = i32 ((2 : Nat) : Int) from by decide]
  exact r_nay (by decide) (by decide)
theorem kr_run (hR : RV s g) {a w d : Int} (a1 : -2147483648 ≤ a) (a2 : a ≤ 2147483647) (b1 : -2147483648 ≤ w) (b2 : w ≤ 2147483647) (d1 : -2147483648 ≤ d) (d2 : d ≤ 2147483647) (hww : ∀ q y, q < 6 → y ≤ 2 → Wk g.1.1.1 (runS g.1.1 y (nowP g.1 q)).2.2.1) : RA h s g (fX12_run (M h s) (h + 308) (i32 a) (i32 w) (i32 d)) (rnV g.1 a w d).1 (rnV g.1 a w d).2 := by
  have hV := hR.1.2.2
  have hR0 : RV (thr s 0) g := (rv_thr hR)
  have hno : fJX12_run_m_29 (M h (thr s 0)) (h + 308) (i32 a) (i32 w) (i32 d) (h + 308) = some (0, M h (thr s 1)) := by
    unfold fJX12_run_m_29 fJX12_run_m_30
    rw [o_308, sb, r_nayt, sb, if_pos rfl]
  unfold fX12_run rnV
  rw [w_thr, sb, r_place6 a1 a2, sb]
  by_cases c1 : 0 ≤ a ∧ a < 6
  · rw [if_pos c1, if_neg n10, show (0 : Int64) = i64 0 from by decide, show (2 : Int64) = i64 2 from by decide, in64 d1 d2 (by omega) (by omega), sb]
    by_cases c2 : 0 ≤ d ∧ d ≤ 2
    · rw [if_pos c2, if_neg n10, if_pos ⟨c1, c2⟩]
      unfold fJX12_run_m_30
      rw [o_308, sb, r_yes, sb, if_neg n10, r_isWay b1 b2, sb, o_308, sb]
      by_cases c3 : 0 ≤ w ∧ w ≤ 2
      · rw [if_pos c3, if_pos c3, r_yes, sb, if_neg n10]
        obtain ⟨q, rfl⟩ := nat_of c1.1
        obtain ⟨y, rfl⟩ := nat_of c3.1
        have hq : q < 6 := by omega
        have hk := nowP_Wk hV hq
        simp only [tn0]
        obtain ⟨s1, e1, e2⟩ := r_runs (h := h) hV.1 hR0.row hk (show y ≤ 2 by omega)
        rw [o_308, sb, r_wordAt hR0 hq, sb, sb, e1, sb]
        simp only []
        rcases (show d = 0 ∨ d = 1 ∨ d = 2 by omega) with rfl | rfl | rfl
        · rw [if_pos (by decide), g_308_24, sb, e2.2.1]
          exact ra_rf hR e2.1 (by omega) (by decide) (by decide) (by decide) (by decide) (by decide) (by decide) rfl
        · rw [if_neg (by decide), if_pos (by decide), g_308_23, sb, e2.2.2.1]
          exact ra_rf hR e2.1 (by omega) (by decide) (by decide) (by decide) (by decide) (by decide) (by decide) rfl
        · rw [if_neg (by decide), if_neg (by decide), r_len ((hww q y hq (by omega)).ww hV.1.1.2), sb]
          exact ra_rf hR e2.1 (by omega) (by decide) (by decide) (by decide) (by decide) (by decide) (by decide) rfl
      · rw [if_neg c3, if_neg c3, r_nayt2, sb, if_pos rfl]
        exact ra_exc hR (show (2 : Nat) ≠ 0 by decide) rfl
    · rw [if_neg c2, if_pos rfl, if_neg (fun h9 => c2 h9.2), hno]
      exact ra_exc hR (by decide) rfl
  · rw [if_neg c1, if_pos rfl, if_neg (fun h9 => c1 h9.1), hno]
    exact ra_exc hR (by decide) rfl
theorem run_wk (hC : CV s N g) {q y : Nat} (hq : q < 6) (hy : y ≤ 2) : Wk g.1.1.1 (runS g.1.1 y (nowP g.1 q)).2.2.1 := by
  obtain ⟨s1, e1, e2, e3, e4⟩ := c_runFrom (h := 0) hC.ws hC.rs (nowP_Wk hC.wf hq) hy
  exact e3
theorem k11 {sx : Nat → Int32} {L : Nat} {i : Int32} {y : Nat → Int32} (hI : Inv s N g) (hN : N ≤ 900000) (hy : Sc5 sx L i y) : KOK h N (fK11 sx L (h + 0) (h + 308) (h + 339) i (M h s)) := by
  obtain ⟨y1, y2, y3, y4, y5⟩ := hy
  obtain ⟨a, ea, a1, a2⟩ := i32_ex (y 1)
  obtain ⟨b, eb, b1, b2⟩ := i32_ex (y 2)
  obtain ⟨d, ed, d1, d2⟩ := i32_ex (y 3)
  rw [ea] at y1
  rw [eb] at y2
  rw [ed] at y3
  unfold fK11
  simp only [y1, y2, y3, sb]
  obtain ⟨v1, v2⟩ := rnV_b hI (a := a) (w := b) (d := d)
  exact kstd (h := h) (oR := fun σ => fX12_run σ (h + 308) (i32 a) (i32 b) (i32 d)) hN hI.2.2.1 v1 v2 (kc_run hI a1 a2 b1 b2 d1 d2) (fun s1 _ r1 => kr_run r1 a1 a2 b1 b2 d1 d2 (fun q y hq hy => run_wk hI.1 hq hy))
/-! compare -/
theorem cmpS_b {S : Sys} {a b : List Nat} : -1 ≤ cmpS S a b ∧ cmpS S a b ≤ 1 := by
  unfold cmpS
  repeat' split
  all_goals omega
def cpV (X : Snap) (a b : Int) : Nat × Int := if (0 ≤ a ∧ a < 6) ∧ 0 ≤ b ∧ b < 6 then (0, cmpS X.1 (nowP X a.toNat) (nowP X b.toNat)) else (1, 0)
theorem cpV_b {X : Snap} {a b : Int} : (cpV X a b).1 ≤ 2 ∧ -2147483648 ≤ (cpV X a b).2 ∧ (cpV X a b).2 ≤ 2147483647 := by
  unfold cpV
  split
  · have := cmpS_b (S := X.1) (a := nowP X a.toNat) (b := nowP X b.toNat)
    simp only []
    omega
  · simp only []
    omega
theorem kc_compare (hI : Inv s N g) {a b : Int} (a1 : -2147483648 ≤ a) (a2 : a ≤ 2147483647) (b1 : -2147483648 ≤ b) (b2 : b ≤ 2147483647) : CA h N g g (fL_compare (M h s) (h + 0) (i32 a) (i32 b) (h + 339)) (cpV g.1 a b).1 (cpV g.1 a b).2 := by
  have hV := hI.1.wf
  have hb := (cpV_b (X := g.1) (a := a) (b := b)).2
  unfold fL_compare
  unfold cpV at hb ⊢
  by_cases c1 : 0 ≤ a ∧ a < 6
  · by_cases c2 : 0 ≤ b ∧ b < 6
    · rw [if_pos ⟨c1, c2⟩] at hb ⊢
      refine lN0 hb (hI.self ?_)
      obtain ⟨q, rfl⟩ := nat_of c1.1
      obtain ⟨r, rfl⟩ := nat_of c2.1
      have hq : q < 6 := by omega
      have hr : r < 6 := by omega
      unfold fX11_compare
      rw [c_needP a1 a2, sb, if_pos c1]
      simp only []
      rw [c_needP b1 b2, sb, if_pos c2]
      simp only [tn0, g_0_3, g_2_0, g_2_2, sb, o_3, c_nowAt hI.1 hq, c_nowAt hI.1 hr, c_order hV.1 hI.1.rs (nowP_Wk hV hq) (nowP_Wk hV hr)]
    · rw [if_neg (fun h9 => c2 h9.2)]
      refine lN1 (hI.self ?_)
      unfold fX11_compare
      rw [c_needP a1 a2, sb, if_pos c1]
      simp only []
      rw [c_needP b1 b2, sb, if_neg c2]
  · rw [if_neg (fun h9 => c1 h9.1)]
    refine lN1 (hI.self ?_)
    unfold fX11_compare
    rw [c_needP a1 a2, sb, if_neg c1]
theorem kr_compare (hR : RV s g) {a b : Int} (a1 : -2147483648 ≤ a) (a2 : a ≤ 2147483647) (b1 : -2147483648 ≤ b) (b2 : b ≤ 2147483647) : RA h s g (fX12_compare (M h s) (h + 308) (i32 a) (i32 b)) (cpV g.1 a b).1 (cpV g.1 a b).2 := by
  have hV := hR.1.2.2
  have hR0 : RV (thr s 0) g := (rv_thr hR)
  have hno : fJX12_compare_m_24 (M h (thr s 0)) (h + 308) (i32 a) (i32 b) (h + 308) = some (0, M h (thr s 1)) := by
    unfold fJX12_compare_m_24 fJX12_compare_m_25
    rw [o_308, sb, r_nayt, sb, if_pos rfl]
  unfold fX12_compare cpV
  rw [w_thr, sb, r_place6 a1 a2, sb]
  by_cases c1 : 0 ≤ a ∧ a < 6
  · rw [if_pos c1, if_neg n10, r_place6 b1 b2, sb]
    by_cases c2 : 0 ≤ b ∧ b < 6
    · rw [if_pos c2, if_neg n10, if_pos ⟨c1, c2⟩]
      obtain ⟨q, rfl⟩ := nat_of c1.1
      obtain ⟨r, rfl⟩ := nat_of c2.1
      have hq : q < 6 := by omega
      have hr : r < 6 := by omega
      unfold fJX12_compare_m_25
      rw [o_308, sb, r_yes, sb, if_neg n10]
      simp only [tn0, o_308, sb, r_wordAt hR0 hq, r_wordAt hR0 hr, r_cmp hV.1 hR0.row (nowP_Wk hV hq) (nowP_Wk hV hr)]
      exact ra_ask hR rfl
    · rw [if_neg c2, if_pos rfl, if_neg (fun h9 => c2 h9.2), hno]
      exact ra_exc hR (by decide) rfl
  · rw [if_neg c1, if_pos rfl, if_neg (fun h9 => c1 h9.1), hno]
    exact ra_exc hR (by decide) rfl
theorem k17 {sx : Nat → Int32} {L : Nat} {i : Int32} {y : Nat → Int32} (hI : Inv s N g) (hN : N ≤ 900000) (hy : Sc5 sx L i y) : KOK h N (fK17 sx L (h + 0) (h + 308) (h + 339) i (M h s)) := by
  obtain ⟨y1, y2, y3, y4, y5⟩ := hy
  obtain ⟨a, ea, a1, a2⟩ := i32_ex (y 1)
  obtain ⟨b, eb, b1, b2⟩ := i32_ex (y 2)
  rw [ea] at y1
  rw [eb] at y2
  unfold fK17
  simp only [y1, y2, sb]
  obtain ⟨v1, v2⟩ := cpV_b (X := g.1) (a := a) (b := b)
  exact kstd (h := h) (oR := fun σ => fX12_compare σ (h + 308) (i32 a) (i32 b)) hN hI.2.2.1 v1 v2 (kc_compare hI a1 a2 b1 b2) (fun s1 _ r1 => kr_compare r1 a1 a2 b1 b2)
/-! far -/
def faV (X : Snap) (a b : Int) : Nat × Int := if (0 ≤ a ∧ a < 6) ∧ 0 ≤ b ∧ b < 6 then (0, farS X.1 (nowP X a.toNat) (nowP X b.toNat)) else (1, 0)
theorem faV_b (hI : Inv s N g) {a b : Int} : (faV g.1 a b).1 ≤ 2 ∧ -2147483648 ≤ (faV g.1 a b).2 ∧ (faV g.1 a b).2 ≤ 2147483647 := by
  have hN := hI.2.2.2
  unfold faV
  split
  · rename_i c
    obtain ⟨l1, -, -, -, -, -, l7, -⟩ := rch_b hI.1 (by omega) true (nowP_Wk hI.1.wf (show a.toNat < 6 by omega))
    simp only []
    unfold farS
    cases e : (List.range (rch true g.1.1 (nowP g.1 a.toNat)).length).find? (fun j => decide ((lnk (rch true g.1.1 (nowP g.1 a.toNat)) j).1 = nowP g.1 b.toNat)) with
    | none => simp only []; omega
    | some j =>
      have hj : j < (rch true g.1.1 (nowP g.1 a.toNat)).length := List.mem_range.1 (List.mem_of_find?_eq_some e)
      have := l7 j hj
      simp only []; omega
  · simp only []
    omega
theorem kc_far (hI : Inv s N g) {a b : Int} (a1 : -2147483648 ≤ a) (a2 : a ≤ 2147483647) (b1 : -2147483648 ≤ b) (b2 : b ≤ 2147483647) : CA h N g g (fL_far (M h s) (h + 0) (i32 a) (i32 b) (h + 339)) (faV g.1 a b).1 (faV g.1 a b).2 := by
  have hV := hI.1.wf
  have hN := hI.2.2.2
  have hb := (faV_b hI (a := a) (b := b)).2
  unfold fL_far
  unfold faV at hb ⊢
  by_cases c1 : 0 ≤ a ∧ a < 6
  · by_cases c2 : 0 ≤ b ∧ b < 6
    · rw [if_pos ⟨c1, c2⟩] at hb ⊢
      obtain ⟨q, rfl⟩ := nat_of c1.1
      obtain ⟨r, rfl⟩ := nat_of c2.1
      have hq : q < 6 := by omega
      have hr : r < 6 := by omega
      obtain ⟨s1, e1, f1, r1, k1⟩ := c_reach (h := h) (r := 268) (b := true) hI.1 (by omega) (Or.inr (Or.inr ⟨rfl, rfl⟩)) (nowP_Wk hV hq)
      refine lN0 hb ⟨s1, ?_, k1.mono (by omega), hI.2.1.cls f1 (by omega)⟩
      obtain ⟨⟨sl, r2⟩, -⟩ := id r1
      have hl := r2.2.2.2.1
      simp only [tn0]
      unfold fX11_far
      rw [c_needP a1 a2, sb, if_pos c1]
      simp only []
      rw [c_needP b1 b2, sb, if_pos c2]
      simp only []
      rw [g_0_12, sb, g_0_3, sb, g_2_2, sb, c_nowAt hI.1 hq, sb, o_268, sb, e1, sb, g_0_12, sb, g_0_3, sb, g_2_2, sb, c_nowAt k1 hr, sb, o_268, sb, c_find hr3 hV.1.1.2 r2 (nowP_Wk hV hr), sb]
      unfold farS
      cases e : (List.range (rch true g.1.1 (nowP g.1 q)).length).find? (fun j => decide ((lnk (rch true g.1.1 (nowP g.1 q)) j).1 = nowP g.1 r)) with
      | none =>
        show (if i32 (-1) = (-1 : Int32) then _ else _) = _
        rw [if_pos (by decide)]; rfl
      | some j =>
        have hj : j < (rch true g.1.1 (nowP g.1 q)).length := List.mem_range.1 (List.mem_of_find?_eq_some e)
        simp only []
        rw [if_neg (by rw [show (-1 : Int32) = i32 (-1) from by decide]; rw [eq32 (by omega) (by omega) (by omega) (by omega)]; omega), sb, g_268_3, sb, a_270 (by omega) (by omega), sb, tn0, show s1.1 270 j = _ from r2.2.2.1 j hj]
    · rw [if_neg (fun h9 => c2 h9.2)]
      refine lN1 (hI.self ?_)
      unfold fX11_far
      rw [c_needP a1 a2, sb, if_pos c1]
      simp only []
      rw [c_needP b1 b2, sb, if_neg c2]
  · rw [if_neg (fun h9 => c1 h9.1)]
    refine lN1 (hI.self ?_)
    unfold fX11_far
    rw [c_needP a1 a2, sb, if_neg c1]
theorem kr_far (hR : RV s g) {a b : Int} (a1 : -2147483648 ≤ a) (a2 : a ≤ 2147483647) (b1 : -2147483648 ≤ b) (b2 : b ≤ 2147483647) : RA h s g (fX12_far (M h s) (h + 308) (i32 a) (i32 b)) (faV g.1 a b).1 (faV g.1 a b).2 := by
  have hV := hR.1.2.2
  have hR0 : RV (thr s 0) g := (rv_thr hR)
  have hno : fJX12_far_m_24 (M h (thr s 0)) (h + 308) (i32 a) (i32 b) (h + 308) = some (0, M h (thr s 1)) := by
    unfold fJX12_far_m_24 fJX12_far_m_25
    rw [o_308, sb, r_nayt, sb, if_pos rfl]
  unfold fX12_far faV
  rw [w_thr, sb, r_place6 a1 a2, sb]
  by_cases c1 : 0 ≤ a ∧ a < 6
  · rw [if_pos c1, if_neg n10, r_place6 b1 b2, sb]
    by_cases c2 : 0 ≤ b ∧ b < 6
    · rw [if_pos c2, if_neg n10, if_pos ⟨c1, c2⟩]
      obtain ⟨q, rfl⟩ := nat_of c1.1
      obtain ⟨r, rfl⟩ := nat_of c2.1
      have hq : q < 6 := by omega
      have hr : r < 6 := by omega
      unfold fJX12_far_m_25
      obtain ⟨s1, e1, f1⟩ := r_farOf (h := h) hV.1 hR0.row (nowP_Wk hV hq) ((nowP_Wk hV hr).ww hV.1.1.2)
      rw [o_308, sb, r_yes, sb, if_neg n10]
      simp only [tn0, o_308, sb, r_wordAt hR0 hq, r_wordAt hR0 hr, e1]
      exact ra_rf hR f1.1 (by omega) (by decide) (by decide) (by decide) (by decide) (by decide) (by decide) rfl
    · rw [if_neg c2, if_pos rfl, if_neg (fun h9 => c2 h9.2), hno]
      exact ra_exc hR (by decide) rfl
  · rw [if_neg c1, if_pos rfl, if_neg (fun h9 => c1 h9.1), hno]
    exact ra_exc hR (by decide) rfl
theorem k16 {sx : Nat → Int32} {L : Nat} {i : Int32} {y : Nat → Int32} (hI : Inv s N g) (hN : N ≤ 900000) (hy : Sc5 sx L i y) : KOK h N (fK16 sx L (h + 0) (h + 308) (h + 339) i (M h s)) := by
  obtain ⟨y1, y2, y3, y4, y5⟩ := hy
  obtain ⟨a, ea, a1, a2⟩ := i32_ex (y 1)
  obtain ⟨b, eb, b1, b2⟩ := i32_ex (y 2)
  rw [ea] at y1
  rw [eb] at y2
  unfold fK16
  simp only [y1, y2, sb]
  obtain ⟨v1, v2⟩ := faV_b hI (a := a) (b := b)
  exact kstd (h := h) (oR := fun σ => fX12_far σ (h + 308) (i32 a) (i32 b)) hN hI.2.2.1 v1 v2 (kc_far hI a1 a2 b1 b2) (fun s1 _ r1 => kr_far r1 a1 a2 b1 b2)
/-! came -/
def cmV (X : Snap) (a b : Int) : Nat × Int := if (0 ≤ a ∧ a < 6) ∧ 0 ≤ b ∧ b < (rch false X.1 (nowP X a.toNat)).length then (0, ((lnk (rch false X.1 (nowP X a.toNat)) b.toNat).2 : Int)) else (1, 0)
theorem cmV_b (hI : Inv s N g) {a b : Int} : (cmV g.1 a b).1 ≤ 2 ∧ -2147483648 ≤ (cmV g.1 a b).2 ∧ (cmV g.1 a b).2 ≤ 2147483647 := by
  have hN := hI.2.2.2
  unfold cmV
  split
  · rename_i c
    obtain ⟨l1, -, -, -, -, -, l7, -⟩ := rch_b hI.1 (by omega) false (nowP_Wk hI.1.wf (show a.toNat < 6 by omega))
    have := l7 b.toNat (by omega)
    simp only []
    omega
  · simp only []
    omega
theorem kc_came (hI : Inv s N g) {a b : Int} (a1 : -2147483648 ≤ a) (a2 : a ≤ 2147483647) (b1 : -2147483648 ≤ b) (b2 : b ≤ 2147483647) : CA h N g g (fL_came (M h s) (h + 0) (i32 a) (i32 b) (h + 339)) (cmV g.1 a b).1 (cmV g.1 a b).2 := by
  have hV := hI.1.wf
  have hN := hI.2.2.2
  have hb := (cmV_b hI (a := a) (b := b)).2
  unfold fL_came
  unfold cmV at hb ⊢
  by_cases c1 : 0 ≤ a ∧ a < 6
  · obtain ⟨q, rfl⟩ := nat_of c1.1
    have hq : q < 6 := by omega
    obtain ⟨s1, e1, f1, r1, k1⟩ := c_reach (h := h) (r := 260) (b := false) hI.1 (by omega) (Or.inl ⟨rfl, rfl⟩) (nowP_Wk hV hq)
    obtain ⟨⟨sl, r2⟩, -⟩ := id r1
    have hl := r2.2.2.2.1
    rw [tn0] at hb ⊢
    have hd : fX11_came (M h s) (h + 0) (i32 (q : Int)) (i32 b) = (match (if 0 ≤ b ∧ b < (rch false g.1.1 (nowP g.1 q)).length then (Sum.inl (), M h s1) else (Sum.inr xNSE, M h s1) : (Unit ⊕ String) × St) with
        | (Sum.inl _, σ) => (gR σ (h + 0) 10 10).bind fun v32 => (gR σ v32 6 3).bind fun v35 => (aI σ v35 0 (i32 b)).bind fun v39 => some (Sum.inl v39, σ)
        | (Sum.inr E, σ) => some (Sum.inr E, σ)) := by
      unfold fX11_came
      rw [c_needP a1 a2, sb, if_pos c1]
      simp only []
      rw [g_0_10, sb, g_0_3, sb, g_2_2, sb, c_nowAt hI.1 hq, sb, o_260, sb, e1, sb, g_0_10, sb, g_260_4, sb, r2.1, c_needB b1 b2 (by omega) (by omega), sb]
      by_cases c3 : 0 ≤ b ∧ b < (rch false g.1.1 (nowP g.1 q)).length
      · simp only [if_pos c3]
      · simp only [if_neg c3]
    by_cases c2 : 0 ≤ b ∧ b < (rch false g.1.1 (nowP g.1 q)).length
    · rw [if_pos ⟨c1, c2⟩] at hb ⊢
      refine lN0 hb ⟨s1, ?_, k1.mono (by omega), hI.2.1.cls f1 (by omega)⟩
      obtain ⟨j, rfl⟩ := nat_of c2.1
      have hj : j < (rch false g.1.1 (nowP g.1 q)).length := by omega
      rw [hd, if_pos c2]
      simp only []
      rw [g_0_10, sb, g_260_3, sb, a_262 (by omega) (by omega), sb, tn0, show s1.1 262 j = _ from r2.2.2.1 j hj]
    · rw [if_neg (fun h9 => c2 h9.2)]
      refine lN1 ⟨s1, ?_, k1.mono (by omega), hI.2.1.cls f1 (by omega)⟩
      rw [hd, if_neg c2]
  · rw [if_neg (fun h9 => c1 h9.1)]
    refine lN1 (hI.self ?_)
    unfold fX11_came
    rw [c_needP a1 a2, sb, if_neg c1]
theorem r_isReached (hR : RV s g) {a b : Int} (a1 : -2147483648 ≤ a) (a2 : a ≤ 2147483647) (b1 : -2147483648 ≤ b) (b2 : b ≤ 2147483647) : ∃ s', fX12_isReached (M h s) (h + 308) (i32 a) (i32 b) = some (if (0 ≤ a ∧ a < 6) ∧ 0 ≤ b ∧ b < (rch false g.1.1 (nowP g.1 a.toNat)).length then 1 else 0, M h s') ∧ Rf [16, 17, 19] [18] 317 319 s s' ∧ (0 ≤ a ∧ a < 6 → RQ s' 0 g.1.1.1 (rch false g.1.1 (nowP g.1 a.toNat))) := by
  have hV := hR.1.2.2
  unfold fX12_isReached
  rw [r_place6 a1 a2, sb]
  by_cases c1 : 0 ≤ a ∧ a < 6
  · obtain ⟨q, rfl⟩ := nat_of c1.1
    have hq : q < 6 := by omega
    obtain ⟨s1, e1, f1, r1⟩ := r_laysReach (h := h) (u := 0) hV.1 hR.row (by decide) (nowP_Wk hV hq)
    rw [tn0]
    refine ⟨s1, ?_, f1.1, fun _ => r1⟩
    have hl := r1.2.2.2.1
    rw [if_pos c1, if_neg n10, o_308, sb, r_wordAt hR hq, sb, sb, show (0 : Int32) = i32 ((0 : Nat) : Int) from rfl, e1, sb, g_308_27, sb, a_319 (by decide) (by decide), sb, show s1.1 319 ((0 : Nat) : Int).toNat = _ from r1.1, q1, s32, show (0 : Int64) = i64 0 from by decide, toL (show -2147483648 ≤ (((rch false g.1.1 (nowP g.1 q)).length : Nat) : Int) - 1 by omega) (by omega), in64 b1 b2 (by omega) (by omega), sb, zok01, sb]
    by_cases c2 : 0 ≤ b ∧ b < (rch false g.1.1 (nowP g.1 q)).length
    · rw [if_pos (by omega), if_pos ⟨c1, c2⟩]; rfl
    · rw [if_neg (by omega), if_neg (fun h9 => c2 h9.2)]; rfl
  · refine ⟨s, ?_, Rf.rf, fun h9 => absurd h9 c1⟩
    rw [if_neg c1, if_pos rfl, if_neg (fun h9 => c1 h9.1)]
theorem kr_came (hR : RV s g) {a b : Int} (a1 : -2147483648 ≤ a) (a2 : a ≤ 2147483647) (b1 : -2147483648 ≤ b) (b2 : b ≤ 2147483647) : RA h s g (fX12_came (M h s) (h + 308) (i32 a) (i32 b)) (cmV g.1 a b).1 (cmV g.1 a b).2 := by
  have hR0 : RV (thr s 0) g := (rv_thr hR)
  obtain ⟨s1, e1, f1, q1'⟩ := r_isReached (h := h) hR0 a1 a2 b1 b2
  unfold fX12_came cmV
  rw [w_thr, sb, o_308, sb, e1, sb, o_308, sb]
  by_cases c : (0 ≤ a ∧ a < 6) ∧ 0 ≤ b ∧ b < (rch false g.1.1 (nowP g.1 a.toNat)).length
  · simp only [if_pos c]
    obtain ⟨j, rfl⟩ := nat_of c.2.1
    rw [r_ok (f1.t0 (by decide)), sb, if_neg n10]
    simp only [tn0]
    rw [g_308_26, sb, q318 (q1' c.1) (show j < _ by omega), sb]
    exact ra_rf hR f1 (by omega) (by decide) (by decide) (by decide) (by decide) (by decide) (by decide) rfl
  · simp only [if_neg c]
    rw [r_nay1 (f1.t0 (by decide)), sb, if_pos rfl]
    exact ra_excf hR f1 (by omega) (by decide) (by decide) (by decide) (by decide) (by decide) (by decide) (show (1 : Nat) ≠ 0 by decide) rfl
theorem k14 {sx : Nat → Int32} {L : Nat} {i : Int32} {y : Nat → Int32} (hI : Inv s N g) (hN : N ≤ 900000) (hy : Sc5 sx L i y) : KOK h N (fK14 sx L (h + 0) (h + 308) (h + 339) i (M h s)) := by
  obtain ⟨y1, y2, y3, y4, y5⟩ := hy
  obtain ⟨a, ea, a1, a2⟩ := i32_ex (y 1)
  obtain ⟨b, eb, b1, b2⟩ := i32_ex (y 2)
  rw [ea] at y1
  rw [eb] at y2
  unfold fK14
  simp only [y1, y2, sb]
  obtain ⟨v1, v2⟩ := cmV_b hI (a := a) (b := b)
  exact kstd (h := h) (oR := fun σ => fX12_came σ (h + 308) (i32 a) (i32 b)) hN hI.2.2.1 v1 v2 (kc_came hI a1 a2 b1 b2) (fun s1 _ r1 => kr_came r1 a1 a2 b1 b2)
end PA
