/-! CALLS: how they end -/
def Sc5 (sx : Nat → Int32) (L : Nat) (i : Int32) (y : Nat → Int32) : Prop := sc sx L (i + 1) = some (y 1) ∧ sc sx L (i + 2) = some (y 2) ∧ sc sx L (i + 3) = some (y 3) ∧ sc sx L (i + 4) = some (y 4) ∧ sc sx L (i + 5) = some (y 5)
def KOK (h N : Nat) (o : Option St) : Prop := ∃ s' g', o = some (M h s') ∧ Inv s' (N + 100) g'
def CA (h N : Nat) (g g' : Gst) (o : Option (Int32 × St)) (k : Nat) (v : Int) : Prop := ∃ s1, o = some (i32 (k : Int), M h s1) ∧ CV s1 (N + 100) g' ∧ RV s1 g ∧ (k = 0 → s1.2 339 0 = i64 v)
def RA (h : Nat) (s : Mm) (g' : Gst) (o : Option (Int32 × St)) (k : Nat) (v : Int) : Prop := ∃ w s2, o = some (w, M h s2) ∧ Fr 308 338 s s2 ∧ RV s2 g' ∧ s2.1 308 0 = i32 (k : Int) ∧ (k = 0 → w = i32 v)
section KK
variable {h : Nat} {s : Mm} {g g' : Gst} {N : Nat}
theorem CV.mono {N' : Nat} (hC : CV s N g) (hN : N ≤ N') : CV s N' g := by
  obtain ⟨h1, h2, h3, h4, h5, h6, ⟨ch, k1, k2⟩, h8⟩ := hC
  exact ⟨h1, h2, h3, h4, h5, h6, ⟨ch, by omega, k2⟩, h8⟩
theorem kstd {oC : Option (Int32 × St)} {oR : St → Option (Int32 × St)} {k : Nat} {v : Int} (hN : N ≤ 900000) (hok : okG g') (hk : k ≤ 2) (hv : -2147483648 ≤ v ∧ v ≤ 2147483647) (hc : CA h N g g' oC k v) (hr : ∀ s1, CV s1 (N + 100) g' → RV s1 g → RA h s1 g' (oR (M h s1)) k v) :
    KOK h N (oC.bind fun w => (isO w.2 (h + 308) 11).bind fun _ => (oR w.2).bind fun w2 => (isO w2.2 (h + 308) 11).bind fun _ => (fX12_thrown w2.2 (h + 308)).bind fun w3 => if w3 = w.1 then (if w.1 = 0 then ((aL w2.2 (h + 339) 0).bind fun v1 => if (lg_cmp v1 w2.1.toInt64) = 0 then (some w2.2) else (none)) else (some w2.2)) else (none)) := by
  obtain ⟨s1, e1, c1, r1, o1⟩ := hc
  obtain ⟨w, s2, e2, f2, r2, t2, w2⟩ := hr s1 c1 r1
  refine ⟨s2, g', ?_, c1.work f2 (Or.inr (Or.inr (Or.inr (by decide)))), r2, hok, by omega⟩
  rw [e1, sb]
  simp only []
  rw [o_308, sb, e2, sb]
  simp only []
  exact ktail hk hv t2 (fun h9 => ⟨w2 h9, by rw [f2.L 339 (by decide)]; exact o1 h9⟩)
theorem kstd2 {oC : Option (Int32 × St)} {oR : St → Option (Int32 × St)} {v : Int} (hN : N ≤ 900000) (hok : okG g') (hc : ∃ s1, oC = some (i32 v, M h s1) ∧ CV s1 (N + 100) g' ∧ RV s1 g) (hr : ∀ s1, CV s1 (N + 100) g' → RV s1 g → ∃ s2, oR (M h s1) = some (i32 v, M h s2) ∧ Fr 308 338 s1 s2 ∧ RV s2 g') :
    KOK h N (oC.bind fun w => (isO w.2 (h + 308) 11).bind fun _ => (oR w.2).bind fun w2 => if w.1 = w2.1 then (some w2.2) else (none)) := by
  obtain ⟨s1, e1, c1, r1⟩ := hc
  obtain ⟨s2, e2, f2, r2⟩ := hr s1 c1 r1
  refine ⟨s2, g', ?_, c1.work f2 (Or.inr (Or.inr (Or.inr (by decide)))), r2, hok, by omega⟩
  rw [e1, sb]
  simp only []
  rw [o_308, sb, e2, sb, if_pos rfl]
/-- what the law makes of the class's answer: NoSuchElementException, IllegalArgumentException, both -/
theorem lN0 {o : Option ((Int32 ⊕ String) × St)} {v : Int} (hv : -2147483648 ≤ v ∧ v ≤ 2147483647) (hx : ∃ s1, o = some (Sum.inl (i32 v), M h s1) ∧ CV s1 (N + 100) g' ∧ RV s1 g) : CA h N g g' ((isO (M h s) (h + 0) 10).bind fun _ => o.bind fun w => (match w with
    | (Sum.inl r, σ) => (sL σ (h + 339) 0 r.toInt64).bind fun σ9 => some (0, σ9)
    | (Sum.inr E, σ) => if E = xNSE then (some (1, σ)) else (none))) 0 v := by
  obtain ⟨s1, e1, c1, r1⟩ := hx
  refine ⟨mL s1 339 (vp_updL (s1.2 339) 0 (i64 v)), ?_, c1.work (lo := 339) (hi := 339) (Fr.rf.mL (by decide) (by decide)) (by omega), r1.cls (lo := 339) (hi := 339) (Fr.rf.mL (by decide) (by decide)) (by omega), fun _ => by rw [mL_at, updL_at]⟩
  rw [o_0, sb, e1, sb]
  simp only []
  rw [s_out hv, sb]; rfl
theorem lN1 {o : Option ((Int32 ⊕ String) × St)} {v : Int} (hx : ∃ s1, o = some (Sum.inr xNSE, M h s1) ∧ CV s1 (N + 100) g' ∧ RV s1 g) : CA h N g g' ((isO (M h s) (h + 0) 10).bind fun _ => o.bind fun w => (match w with
    | (Sum.inl r, σ) => (sL σ (h + 339) 0 r.toInt64).bind fun σ9 => some (0, σ9)
    | (Sum.inr E, σ) => if E = xNSE then (some (1, σ)) else (none))) 1 v := by
  obtain ⟨s1, e1, c1, r1⟩ := hx
  refine ⟨s1, ?_, c1, r1, fun h9 => absurd h9 (by decide)⟩
  rw [o_0, sb, e1, sb]
  simp only []
  rw [if_pos trivial]; rfl
theorem lI0 {o : Option ((Int32 ⊕ String) × St)} {v : Int} (hv : -2147483648 ≤ v ∧ v ≤ 2147483647) (hx : ∃ s1, o = some (Sum.inl (i32 v), M h s1) ∧ CV s1 (N + 100) g' ∧ RV s1 g) : CA h N g g' ((isO (M h s) (h + 0) 10).bind fun _ => o.bind fun w => (match w with
    | (Sum.inl r, σ) => (sL σ (h + 339) 0 r.toInt64).bind fun σ9 => some (0, σ9)
    | (Sum.inr E, σ) => if E = xIAE then (some (1, σ)) else (none))) 0 v := by
  obtain ⟨s1, e1, c1, r1⟩ := hx
  refine ⟨mL s1 339 (vp_updL (s1.2 339) 0 (i64 v)), ?_, c1.work (lo := 339) (hi := 339) (Fr.rf.mL (by decide) (by decide)) (by omega), r1.cls (lo := 339) (hi := 339) (Fr.rf.mL (by decide) (by decide)) (by omega), fun _ => by rw [mL_at, updL_at]⟩
  rw [o_0, sb, e1, sb]
  simp only []
  rw [s_out hv, sb]; rfl
theorem lI1 {o : Option ((Int32 ⊕ String) × St)} {v : Int} (hx : ∃ s1, o = some (Sum.inr xIAE, M h s1) ∧ CV s1 (N + 100) g' ∧ RV s1 g) : CA h N g g' ((isO (M h s) (h + 0) 10).bind fun _ => o.bind fun w => (match w with
    | (Sum.inl r, σ) => (sL σ (h + 339) 0 r.toInt64).bind fun σ9 => some (0, σ9)
    | (Sum.inr E, σ) => if E = xIAE then (some (1, σ)) else (none))) 1 v := by
  obtain ⟨s1, e1, c1, r1⟩ := hx
  refine ⟨s1, ?_, c1, r1, fun h9 => absurd h9 (by decide)⟩
  rw [o_0, sb, e1, sb]
  simp only []
  rw [if_pos trivial]; rfl
theorem Inv.self (hI : Inv s N g) {o : Option ((Int32 ⊕ String) × St)} {r : Int32 ⊕ String} (e : o = some (r, M h s)) : ∃ s1, o = some (r, M h s1) ∧ CV s1 (N + 100) g ∧ RV s1 g := ⟨s, e, hI.1.mono (by omega), hI.2.1⟩
def thr (s : Mm) (k : Nat) : Mm := mI s 308 (upd (s.1 308) 0 (i32 (k : Int)))
theorem thr_0 {k : Nat} : (thr s k).1 308 0 = i32 (k : Int) := by unfold thr; rw [mI_at, upd_at]
theorem thr_2 {k : Nat} : (thr s k).2 = s.2 := rfl
theorem thr_ne {k j : Nat} (hj : j ≠ 0) : (thr s k).1 308 j = s.1 308 j := by unfold thr; rw [mI_at, upd_ne hj]
theorem thr_i {k i : Nat} (hi : i ≠ 308) : (thr s k).1 i = s.1 i := by unfold thr; rw [mI_ne hi]
theorem thr_thr {k k' : Nat} : thr (thr s k) k' = thr s k' := by unfold thr; rw [mI_mI, mI_at, upd_upd]
theorem thr_fr {k : Nat} : Fr 308 338 s (thr s k) := by unfold thr; exact Fr.rf.mI (by decide) (by decide)
theorem rv_thr {k : Nat} (hR : RV s g) : RV (thr s k) g := by
  have hf : Rf [0] [] 1 0 s (thr s k) := by unfold thr; exact Rf.rf.fI (by decide)
  exact hR.rf hf (by omega) (by decide) (by decide) (by decide) (by decide) (by decide)
theorem w_thr : wrF (M h s) (h + 308) 11 0 (.int 0) = some (M h (thr s 0)) := w_308_0
theorem r_yes {k : Int32} : fX12_right (M h (thr s 0)) (h + 308) 1 k = some (1, M h (thr s 0)) := r_ok thr_0
theorem r_nay {k : Nat} (hk : k ≠ 0) (hk2 : k ≤ 2) : fX12_right (M h (thr s 0)) (h + 308) 0 (i32 (k : Int)) = some (0, M h (thr s k)) := by
  rw [r_no thr_0 (by rw [z32 (by omega)]; exact hk)]
  have e : mI (thr s 0) 308 (upd ((thr s 0).1 308) 0 (i32 (k : Int))) = thr s k := thr_thr
  rw [e]
theorem ra_exc (hR : RV s g) {k : Nat} {v : Int} {o : Option (Int32 × St)} (hk : k ≠ 0) (e : o = some (0, M h (thr s k))) : RA h s g o k v := ⟨0, thr s k, e, thr_fr, (rv_thr hR), thr_0, fun h9 => absurd h9 hk⟩
theorem ra_ans {s2 : Mm} {v : Int} {o : Option (Int32 × St)} (hF : Fr 308 338 s s2) (hR : RV s2 g') (h0 : s2.1 308 0 = 0) (e : o = some (i32 v, M h s2)) : RA h s g' o 0 v := ⟨i32 v, s2, e, hF, hR, h0, fun _ => rfl⟩
theorem ra_ask {v : Int} {o : Option (Int32 × St)} (hR : RV s g) (e : o = some (i32 v, M h (thr s 0))) : RA h s g o 0 v := ra_ans thr_fr (rv_thr hR) thr_0 e
theorem RV.row (hR : RV s g) : RR (s.2 309) g.1.1 := hR.1.1
theorem r_wordAt (hR : RV s g) {q : Nat} (hq : q < 6) : fX12_wordAt (M h s) (h + 308) (i32 (q : Int)) = some (i64 (r6 (nowP g.1 q) : Int)) := by
  unfold fX12_wordAt
  rw [g_308_1, sb, show (0 : Int32) = i32 ((0 : Nat) : Int) from rfl, r_pl, sb, a_309 (by omega) (by omega), sb, tn0]
  exact congrArg some (hR.1.2.1 q hq).2
theorem c_nowAt (hC : CV s N g) {q : Nat} (hq : q < 6) : aL (M h s) (h + 10) (i32 (q : Int)) = some (i64 (cw (nowP g.1 q) : Int)) := by
  rw [a_10 (by omega) (by omega), tn0]
  exact congrArg some (hC.1.2.1 q hq).2.1
theorem CV.wf (hC : CV s N g) : VX g.1 := hC.1.2.2
theorem nat_of {a : Int} (h1 : 0 ≤ a) : ∃ n : Nat, a = (n : Int) := ⟨a.toNat, by omega⟩
/-! at -/
def atV (X : Snap) (a b : Int) : Nat × Int := if (0 ≤ a ∧ a < 6) ∧ 0 ≤ b then (0, ltr (nowP X a.toNat) b.toNat) else (1, 0)
theorem ltr_b {w : List Nat} (hw : Ww w) (k : Nat) : -1 ≤ ltr w k ∧ ltr w k < 5 := by
  by_cases c : k < w.length
  · rw [ltr_of c]
    have := getD_lt hw.2 c
    omega
  · unfold ltr
    rw [List.getElem?_eq_none (by omega)]; decide
theorem kc_at (hI : Inv s N g) {a b : Int} (a1 : -2147483648 ≤ a) (a2 : a ≤ 2147483647) (b1 : -2147483648 ≤ b) (b2 : b ≤ 2147483647) : CA h N g g (fL_at (M h s) (h + 0) (i32 a) (i32 b) (h + 339)) (atV g.1 a b).1 (atV g.1 a b).2 := by
  have hV := hI.1.wf
  unfold fL_at atV
  by_cases c1 : 0 ≤ a ∧ a < 6
  · by_cases c2 : 0 ≤ b
    · obtain ⟨q, rfl⟩ := nat_of c1.1
      obtain ⟨k, rfl⟩ := nat_of c2
      have hW := (nowP_Wk hV (show q < 6 by omega)).ww hV.1.1.2
      have := ltr_b hW k
      rw [if_pos ⟨c1, c2⟩]
      simp only [tn0]
      refine lN0 (by omega) (hI.self ?_)
      unfold fX11_at
      rw [c_needP a1 a2, sb, if_pos c1]
      simp only []
      rw [c_needI b1 b2, sb, if_pos c2]
      simp only [g_0_3, g_2_2, sb, c_nowAt hI.1 (show q < 6 by omega), c_let hW (show k ≤ 2147483647 by omega)]
    · rw [if_neg (fun h9 => c2 h9.2)]
      refine lN1 (hI.self ?_)
      unfold fX11_at
      rw [c_needP a1 a2, sb, if_pos c1]
      simp only []
      rw [c_needI b1 b2, sb, if_neg c2]
  · rw [if_neg (fun h9 => c1 h9.1)]
    refine lN1 (hI.self ?_)
    unfold fX11_at
    rw [c_needP a1 a2, sb, if_neg c1]
theorem kr_at (hR : RV s g) {a b : Int} (a1 : -2147483648 ≤ a) (a2 : a ≤ 2147483647) (b1 : -2147483648 ≤ b) (b2 : b ≤ 2147483647) : RA h s g (fX12_at (M h s) (h + 308) (i32 a) (i32 b)) (atV g.1 a b).1 (atV g.1 a b).2 := by
  have hV := hR.1.2.2
  have hR0 : RV (thr s 0) g := (rv_thr hR)
  have hno : fJX12_at_m_21 (M h (thr s 0)) (h + 308) (i32 a) (i32 b) (h + 308) = some (0, M h (thr s 1)) := by
    unfold fJX12_at_m_21 fJX12_at_m_22
    rw [o_308, sb, show (1 : Int32) = i32 ((1 : Nat) : Int) from q1, r_nay (by decide) (by decide), sb, if_pos rfl]
  unfold fX12_at atV
  rw [w_thr, sb, r_place6 a1 a2, sb]
  by_cases c1 : 0 ≤ a ∧ a < 6
  · rw [if_pos c1, if_neg n10]
    by_cases c2 : 0 ≤ b
    · obtain ⟨q, rfl⟩ := nat_of c1.1
      obtain ⟨k, rfl⟩ := nat_of c2
      have hW := (nowP_Wk hV (show q < 6 by omega)).ww hV.1.1.2
      have h16 := hW.1
      unfold fJX12_at_m_22
      rw [if_neg (by rw [q0]; rw [lt32 (by omega) (by omega) (by omega) (by omega)]; omega), if_pos ⟨c1, c2⟩, o_308, sb, r_yes, sb, if_neg n10]
      simp only [tn0, o_308, sb, r_wordAt hR0 (show q < 6 by omega), r_len hW]
      by_cases c3 : k < (nowP g.1 q).length
      · rw [if_neg (by rw [le32 (by omega) (by omega) (by omega) (by omega)]; omega), r_let hW c3, sb]
        exact ra_ask hR rfl
      · rw [if_pos (by rw [le32 (by omega) (by omega) (by omega) (by omega)]; omega)]
        have : ltr (nowP g.1 q) k = -1 := by unfold ltr; rw [List.getElem?_eq_none (by omega)]
        rw [this]
        exact ra_ask hR rfl
    · rw [if_pos (by rw [q0]; rw [lt32 (by omega) (by omega) (by omega) (by omega)]; omega), if_neg (fun h9 => c2 h9.2), hno]
      exact ra_exc hR (by decide) rfl
  · rw [if_neg c1, if_pos rfl, if_neg (fun h9 => c1 h9.1), hno]
    exact ra_exc hR (by decide) rfl
theorem atV_b (hV : VX g.1) {a b : Int} : (atV g.1 a b).1 ≤ 2 ∧ -2147483648 ≤ (atV g.1 a b).2 ∧ (atV g.1 a b).2 ≤ 2147483647 := by
  unfold atV
  split
  · rename_i c
    have := ltr_b ((nowP_Wk hV (show a.toNat < 6 by omega)).ww hV.1.1.2) b.toNat
    simp only []
    omega
  · simp only []
    omega
theorem k8 {sx : Nat → Int32} {L : Nat} {i : Int32} {y : Nat → Int32} (hI : Inv s N g) (hN : N ≤ 900000) (hy : Sc5 sx L i y) : KOK h N (fK8 sx L (h + 0) (h + 308) (h + 339) i (M h s)) := by
  obtain ⟨y1, y2, y3, y4, y5⟩ := hy
  obtain ⟨a, ea, a1, a2⟩ := i32_ex (y 1)
  obtain ⟨b, eb, b1, b2⟩ := i32_ex (y 2)
  rw [ea] at y1
  rw [eb] at y2
  unfold fK8
  simp only [y1, y2, sb]
  obtain ⟨v1, v2⟩ := atV_b hI.1.wf (a := a) (b := b)
  exact kstd (h := h) (oR := fun σ => fX12_at σ (h + 308) (i32 a) (i32 b)) hN hI.2.2.1 v1 v2 (kc_at hI a1 a2 b1 b2) (fun s1 _ r1 => kr_at r1 a1 a2 b1 b2)
end KK
