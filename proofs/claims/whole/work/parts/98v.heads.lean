/-! CALLS that ask: constant, said, free, falls, areKin, head -/
section HX
variable {h : Nat} {s s' : Mm} {g g' : Gst} {N : Nat}
theorem k22 {sx : Nat → Int32} {L : Nat} {i : Int32} (hI : Inv s N g) (hN : N ≤ 900000) : KOK h N (fK22 sx L (h + 0) (h + 308) (h + 339) i (M h s)) := by
  refine ⟨thr s 0, g, ?_, hI.1.mono (by omega) |>.work thr_fr (Or.inr (Or.inr (Or.inr (by decide)))), rv_thr hI.2.1, hI.2.2.1, by omega⟩
  unfold fK22
  rw [o_0, sb, c_constant hI.1.ws hI.1.rs, sb, o_308, sb, r_constant hI.1.ws hI.2.1.row, sb, if_pos rfl]
  rfl
def sdW (D : List Nat) (a : Int) : Int := if 0 ≤ a ∧ a < D.length then ((D.getD a.toNat 0 : Nat) : Int) else -1
theorem c_said {D : List Nat} (hD : SDc s D) (hl : D.length ≤ 430) {a : Int} (a1 : -2147483648 ≤ a) (a2 : a ≤ 2147483647) : fX11_said (M h s) (h + 0) (i32 a) = some (i32 (sdW D a)) := by
  unfold fX11_said sdW
  by_cases c : a < 0
  · rw [if_pos (by rw [q0]; rw [lt32 (by omega) (by omega) (by omega) (by omega)]; omega), if_neg (by omega)]; rfl
  · rw [if_neg (by rw [q0]; rw [lt32 (by omega) (by omega) (by omega) (by omega)]; omega), g_0_19, sb, hD.1]
    by_cases c2 : a < D.length
    · obtain ⟨k, rfl⟩ := nat_of (show 0 ≤ a by omega)
      have hk : k < D.length := by omega
      rw [if_pos (by rw [lt32 (by omega) (by omega) (by omega) (by omega)]; omega), g_0_18, sb, a_307 (by omega) (by omega), sb, tn0, hD.2 k hk, if_pos (by omega)]
    · rw [if_neg (by rw [lt32 (by omega) (by omega) (by omega) (by omega)]; omega), if_neg (by omega)]; rfl
theorem r_said {D : List Nat} (hD : SDr (thr s 0) D) (hl : D.length ≤ 430) {a : Int} (a1 : -2147483648 ≤ a) (a2 : a ≤ 2147483647) : fX12_said (M h s) (h + 308) (i32 a) = some (i32 (sdW D a), M h (thr s 0)) := by
  unfold fX12_said sdW
  rw [w_thr, sb, g_308_41, sb, hD.1, show (1 : Int32) = i32 1 from by decide, s32, toL (show -2147483648 ≤ ((D.length : Nat) : Int) - 1 by omega) (by omega), show (0 : Int64) = i64 0 from by decide, in64 a1 a2 (by omega) (by omega), sb]
  by_cases c : 0 ≤ a ∧ a < D.length
  · obtain ⟨k, rfl⟩ := nat_of c.1
    have hk : k < D.length := by omega
    rw [if_pos (show (0 : Int) ≤ (k : Int) ∧ (k : Int) ≤ (D.length : Int) - 1 by omega), if_neg (by decide), g_308_40, sb, a_324 (by omega) (by omega), sb, tn0, hD.2 k hk, if_pos c]
  · rw [if_neg (show ¬ ((0 : Int) ≤ a ∧ a ≤ (D.length : Int) - 1) by omega), if_pos rfl, if_neg c]; rfl
theorem k24 {sx : Nat → Int32} {L : Nat} {i : Int32} {y : Nat → Int32} (hI : Inv s N g) (hN : N ≤ 900000) (hy : Sc5 sx L i y) : KOK h N (fK24 sx L (h + 0) (h + 308) (h + 339) i (M h s)) := by
  obtain ⟨y1, y2, y3, y4, y5⟩ := hy
  obtain ⟨a, ea, a1, a2⟩ := i32_ex (y 1)
  rw [ea] at y1
  have hl := hI.2.2.1.2.2.2
  refine ⟨thr s 0, g, ?_, hI.1.mono (by omega) |>.work thr_fr (Or.inr (Or.inr (Or.inr (by decide)))), rv_thr hI.2.1, hI.2.2.1, by omega⟩
  unfold fK24
  simp only [y1, sb, o_0, o_308]
  rw [c_said hI.1.2.2.2.2.2.1 hl a1 a2, sb, r_said (rv_thr hI.2.1).2.2.2.2.2 hl a1 a2, sb, if_pos rfl]
/-! free -/
theorem fold_le {α : Type} {f : α → Nat} {c : Nat} (hf : ∀ x, f x ≤ c) : ∀ (l : List α) (a : Nat), l.foldl (fun a x => a + f x) a ≤ a + l.length * c := by
  intro l
  induction l with
  | nil => intro a; simp
  | cons x l ih =>
    intro a
    have h1 := ih (a + f x)
    have h2 := hf x
    rw [List.foldl_cons, List.length_cons, Nat.add_mul, Nat.one_mul]
    omega
theorem frS_le {S : Sys} (hK : S.1 ≤ 5) : ∀ (m : Nat) (w : List Nat), frS S m w ≤ 5 ^ m := by
  intro m
  induction m with
  | zero => intro w; unfold frS; simp
  | succ m ih =>
    intro w
    unfold frS
    have h1 := fold_le (f := fun x => if endB S (w ++ [x]) = true then 0 else frS S m (w ++ [x])) (c := 5 ^ m) (fun x => by
      show (if endB S (w ++ [x]) = true then 0 else frS S m (w ++ [x])) ≤ 5 ^ m
      split
      · exact Nat.zero_le _
      · exact ih _) (List.range S.1) 0
    rw [List.length_range, Nat.zero_add] at h1
    have h2 : S.1 * 5 ^ m ≤ 5 * 5 ^ m := Nat.mul_le_mul_right _ hK
    rw [Nat.pow_succ, Nat.mul_comm]
    omega
def frV (X : Snap) (a : Int) : Nat × Int := if 0 ≤ a ∧ a ≤ 8 then (0, (frS X.1 a.toNat [] : Int)) else (1, 0)
theorem frV_b (hV : VX g.1) {a : Int} : (frV g.1 a).1 ≤ 2 ∧ -2147483648 ≤ (frV g.1 a).2 ∧ (frV g.1 a).2 ≤ 2147483647 := by
  unfold frV
  split
  · rename_i c
    have h1 := frS_le hV.1.1.2 a.toNat []
    have h2 : 5 ^ a.toNat ≤ 5 ^ 8 := Nat.pow_le_pow_right (by decide) (by omega)
    have h3 : (5 : Nat) ^ 8 = 390625 := by decide
    simp only []
    omega
  · simp only []
    omega
theorem kc_free (hI : Inv s N g) {a : Int} (a1 : -2147483648 ≤ a) (a2 : a ≤ 2147483647) : CA h N g g (fL_free (M h s) (h + 0) (i32 a) (h + 339)) (frV g.1 a).1 (frV g.1 a).2 := by
  have hV := hI.1.wf
  have hb := (frV_b hV (a := a)).2
  unfold fL_free
  unfold frV at hb ⊢
  by_cases c : 0 ≤ a ∧ a ≤ 8
  · rw [if_pos c] at hb ⊢
    obtain ⟨n, rfl⟩ := nat_of c.1
    obtain ⟨-, -, -, -, -, -, ⟨ch, k1, k2, k3, k4, k5, k6, k7⟩, x, z, h8⟩ := id hI.1
    obtain ⟨s1, x', z', e1, f1, a1'⟩ := c_free (h := h) hV.1 hI.1.rs h8 (show n ≤ 8 by omega)
    have hC1 : CV s1 N g := hI.1.mid f1 (by omega) ⟨ch, k1, by rw [f1.I 3 (by omega)]; exact k2, k3.fr f1 (by omega), k4.fr f1 (by omega), k5.fr f1 (by omega), k6.fr f1 (by omega), k7.fr f1 (by omega)⟩ ⟨x', z', a1'⟩
    refine lI0 hb ⟨s1, ?_, hC1.mono (by omega), hI.2.1.cls f1 (by omega)⟩
    unfold fX11_free
    rw [if_neg (by rw [q0]; rw [lt32 (by omega) (by omega) (by omega) (by omega)]; omega), if_pos (by rw [q8]; rw [le32 (by omega) (by omega) (by omega) (by omega)]; omega), g_0_13, sb, o_272, sb, e1, sb, tn0]
  · rw [if_neg c]
    refine lI1 (hI.self ?_)
    unfold fX11_free
    by_cases c2 : a < 0
    · rw [if_pos (by rw [q0]; rw [lt32 (by omega) (by omega) (by omega) (by omega)]; omega)]
    · rw [if_neg (by rw [q0]; rw [lt32 (by omega) (by omega) (by omega) (by omega)]; omega), if_neg (by rw [q8]; rw [le32 (by omega) (by omega) (by omega) (by omega)]; omega)]
theorem kr_free (hR : RV s g) {a : Int} (a1 : -2147483648 ≤ a) (a2 : a ≤ 2147483647) : RA h s g (fX12_free (M h s) (h + 308) (i32 a)) (frV g.1 a).1 (frV g.1 a).2 := by
  have hV := hR.1.2.2
  have hR0 : RV (thr s 0) g := (rv_thr hR)
  unfold fX12_free frV
  rw [w_thr, sb, show (0 : Int64) = i64 0 from by decide, show (8 : Int64) = i64 8 from by decide, in64 a1 a2 (by omega) (by omega), sb, o_308, sb]
  by_cases c : 0 ≤ a ∧ a ≤ 8
  · rw [if_pos c, if_pos c, r_yes, sb, if_neg n10]
    obtain ⟨n, rfl⟩ := nat_of c.1
    simp only [tn0]
    rw [o_308, sb, show i64 0 = (0 : Int64) from by decide, r_free hV.1 hR0.row (show n ≤ 8 by omega), sb]
    exact ra_ask hR rfl
  · rw [if_neg c, if_neg c, r_nayt, sb, if_pos rfl]
    exact ra_exc hR (by decide) rfl
theorem k26 {sx : Nat → Int32} {L : Nat} {i : Int32} {y : Nat → Int32} (hI : Inv s N g) (hN : N ≤ 900000) (hy : Sc5 sx L i y) : KOK h N (fK26 sx L (h + 0) (h + 308) (h + 339) i (M h s)) := by
  obtain ⟨y1, y2, y3, y4, y5⟩ := hy
  obtain ⟨a, ea, a1, a2⟩ := i32_ex (y 1)
  rw [ea] at y1
  unfold fK26
  simp only [y1, sb]
  obtain ⟨v1, v2⟩ := frV_b hI.1.wf (a := a)
  exact kstd (h := h) (oR := fun σ => fX12_free σ (h + 308) (i32 a)) hN hI.2.2.1 v1 v2 (kc_free hI a1 a2) (fun s1 _ r1 => kr_free r1 a1 a2)
/-! falls -/
def flV (X : Snap) (a : Int) : Nat × Int := if 0 ≤ a ∧ a < nr X.1 then (0, if 0 < cmpS X.1 (rl X.1 a.toNat) (rr X.1 a.toNat) then 1 else 0) else (1, 0)
theorem flV_b {X : Snap} {a : Int} : (flV X a).1 ≤ 2 ∧ ((flV X a).2 = 0 ∨ (flV X a).2 = 1) := by
  unfold flV
  repeat' split
  all_goals simp
theorem kc_falls (hI : Inv s N g) {a : Int} (a1 : -2147483648 ≤ a) (a2 : a ≤ 2147483647) : CA h N g g (fL_falls (M h s) (h + 0) (i32 a) (h + 339)) (flV g.1 a).1 (flV g.1 a).2 := by
  have hV := hI.1.wf
  have hb := (flV_b (X := g.1) (a := a)).2
  unfold fL_falls
  unfold flV at hb ⊢
  by_cases c : 0 ≤ a ∧ a < nr g.1.1
  · rw [if_pos c] at hb ⊢
    obtain ⟨n, rfl⟩ := nat_of c.1
    refine lZ0 hb (hI.self ?_)
    unfold fX11_falls
    rw [o_0, sb, c_needR hV.1 hI.1.rs a1 a2, sb, if_pos c]
    simp only []
    rw [g_0_3, sb, g_2_0, sb, o_3, sb, c_isFalling hV.1 hI.1.rs (show n < nr g.1.1 by omega), sb, zok01, sb, tn0]
    split <;> rfl
  · rw [if_neg c]
    refine lZ1 (hI.self ?_)
    unfold fX11_falls
    rw [o_0, sb, c_needR hV.1 hI.1.rs a1 a2, sb, if_neg c]
theorem kr_falls (hR : RV s g) {a : Int} (a1 : -2147483648 ≤ a) (a2 : a ≤ 2147483647) : RA h s g (fX12_falls (M h s) (h + 308) (i32 a)) (flV g.1 a).1 (flV g.1 a).2 := by
  have hV := hR.1.2.2
  have hR0 : RV (thr s 0) g := (rv_thr hR)
  unfold fX12_falls flV
  rw [w_thr, sb, o_308, sb, r_isRule hV.1 hR0.row a1 a2, sb, sb]
  by_cases c : 0 ≤ a ∧ a < nr g.1.1
  · rw [if_pos c, if_pos c, r_yes, sb, if_neg n10]
    obtain ⟨n, rfl⟩ := nat_of c.1
    simp only [tn0]
    rw [o_308, sb, r_doesFall hV.1 hR0.row (show n < nr g.1.1 by omega), sb]
    by_cases c2 : 0 < cmpS g.1.1 (rl g.1.1 n) (rr g.1.1 n)
    · simp only [if_pos c2]
      rw [if_neg n10]
      exact ra_ask hR rfl
    · simp only [if_neg c2]
      rw [if_pos trivial]
      exact ra_ask hR rfl
  · rw [if_neg c, if_neg c, r_nayt, sb, if_pos rfl]
    exact ra_exc hR (by decide) rfl
theorem k19 {sx : Nat → Int32} {L : Nat} {i : Int32} {y : Nat → Int32} (hI : Inv s N g) (hN : N ≤ 900000) (hy : Sc5 sx L i y) : KOK h N (fK19 sx L (h + 0) (h + 308) (h + 339) i (M h s)) := by
  obtain ⟨y1, y2, y3, y4, y5⟩ := hy
  obtain ⟨a, ea, a1, a2⟩ := i32_ex (y 1)
  rw [ea] at y1
  unfold fK19
  simp only [y1, sb]
  obtain ⟨v1, v2⟩ := flV_b (X := g.1) (a := a)
  exact kstdB (h := h) (oR := fun σ => fX12_falls σ (h + 308) (i32 a)) hN hI.2.2.1 v1 v2 (kc_falls hI a1 a2) (fun s1 _ r1 => kr_falls r1 a1 a2)
/-! areKin -/
noncomputable def knV (X : Snap) (a b : Int) : Nat × Int := if (0 ≤ a ∧ a < nr X.1) ∧ 0 ≤ b ∧ b < nr X.1 then (0, @ite Int (kinB (rl X.1 a.toNat) (rr X.1 a.toNat) (rl X.1 b.toNat) (rr X.1 b.toNat)) (Classical.propDecidable _) 1 0) else (1, 0)
theorem knV_b {X : Snap} {a b : Int} : (knV X a b).1 ≤ 2 ∧ ((knV X a b).2 = 0 ∨ (knV X a b).2 = 1) := by
  unfold knV
  repeat' split
  all_goals simp
theorem cmpW {u v : List Nat} (hu : Ww u) (hv : Ww v) : (lg_cmp (i64 (cw u : Int)) (i64 (cw v : Int)) = 0) = (u = v) := by
  rw [cmp0, cwe hu hv]
theorem c_rlAt (hC : CV s N g) {r : Nat} (hr : r < nr g.1.1) : aL (M h s) (h + 4) (i32 (r : Int)) = some (i64 (cw (rl g.1.1 r) : Int)) := by
  have := hC.ws.2.1
  rw [a_4 (by omega) (by omega), tn0]; exact congrArg some (hC.rs.2.2.1 r hr)
theorem c_rrAt (hC : CV s N g) {r : Nat} (hr : r < nr g.1.1) : aL (M h s) (h + 5) (i32 (r : Int)) = some (i64 (cw (rr g.1.1 r) : Int)) := by
  have := hC.ws.2.1
  rw [a_5 (by omega) (by omega), tn0]; exact congrArg some (hC.rs.2.2.2.1 r hr)
theorem kc_areKin (hI : Inv s N g) {a b : Int} (a1 : -2147483648 ≤ a) (a2 : a ≤ 2147483647) (b1 : -2147483648 ≤ b) (b2 : b ≤ 2147483647) : CA h N g g (fL_areKin (M h s) (h + 0) (i32 a) (i32 b) (h + 339)) (knV g.1 a b).1 (knV g.1 a b).2 := by
  have hV := hI.1.wf
  have hb := (knV_b (X := g.1) (a := a) (b := b)).2
  unfold fL_areKin
  unfold knV at hb ⊢
  by_cases c1 : 0 ≤ a ∧ a < nr g.1.1
  · by_cases c2 : 0 ≤ b ∧ b < nr g.1.1
    · rw [if_pos ⟨c1, c2⟩] at hb ⊢
      obtain ⟨q, rfl⟩ := nat_of c1.1
      obtain ⟨r, rfl⟩ := nat_of c2.1
      have hq : q < nr g.1.1 := by omega
      have hr : r < nr g.1.1 := by omega
      have wq1 := (hV.1.2.2.1 q hq).1.ww hV.1.1.2
      have wq2 := (hV.1.2.2.1 q hq).2.1.ww hV.1.1.2
      have wr1 := (hV.1.2.2.1 r hr).1.ww hV.1.1.2
      have wr2 := (hV.1.2.2.1 r hr).2.1.ww hV.1.1.2
      obtain ⟨s1, e1, d1, f1⟩ := c_findOf (h := h) (s := s) hc1 wq1 wq2
      have k1 : CV s1 N g := hI.1.work f1 (by omega)
      obtain ⟨s2, e2, d2, f2⟩ := c_findOf (h := h) (s := s1) hc2 wr1 wr2
      have k2 : CV s2 N g := k1.work f2 (by omega)
      refine lZ0 hb ⟨s2, ?_, k2.mono (by omega), (hI.2.1.cls f1 (by omega)).cls f2 (by omega)⟩
      have g0 : s2.2 277 = s1.2 277 := f2.L 277 (by decide)
      have g1 := (congrFun g0 2).trans d1.1
      have g2 := (congrFun g0 3).trans d1.2
      have hq9 := hd_ww wq1 wq2
      have hr9 := hd_ww wr1 wr2
      have hkin := kin_hd (l := rl g.1.1 q) (r := rr g.1.1 q) (l' := rl g.1.1 r) (r' := rr g.1.1 r)
      simp only [tn0]
      unfold fX11_areKin
      rw [o_0, sb, c_needR hV.1 hI.1.rs a1 a2, sb, if_pos c1]
      simp only []
      rw [o_0, sb, c_needR hV.1 hI.1.rs b1 b2, sb, if_pos c2]
      simp only [g_0_14, g_0_3, g_2_0, g_3_2, g_3_3, sb, c_rlAt hI.1 hq, c_rrAt hI.1 hq, o_277, e1, g_0_15, c_rlAt k1 hr, c_rrAt k1 hr, o_279, e2, g_277_2, g_277_3, g_279_2, g_279_3, g1, g2, d2.1, d2.2]
      by_cases c3 : (hd (rl g.1.1 q) (rr g.1.1 q)).take (rl g.1.1 q).length = (hd (rl g.1.1 r) (rr g.1.1 r)).take (rl g.1.1 r).length
      · by_cases c4 : (hd (rl g.1.1 q) (rr g.1.1 q)).drop (rl g.1.1 q).length = (hd (rl g.1.1 r) (rr g.1.1 r)).drop (rl g.1.1 r).length
        · rw [if_pos (by rw [cmpW hq9.1 hr9.1]; exact c3), if_pos (by rw [cmpW hq9.2.1 hr9.2.1]; exact c4), if_pos (hkin.1 ⟨c3, c4⟩)]
          rfl
        · rw [if_pos (by rw [cmpW hq9.1 hr9.1]; exact c3), if_neg (by rw [cmpW hq9.2.1 hr9.2.1]; exact c4), if_neg (fun h9 => c4 (hkin.2 h9).2)]
          rfl
      · rw [if_neg (by rw [cmpW hq9.1 hr9.1]; exact c3), if_neg (fun h9 => c3 (hkin.2 h9).1)]
        rfl
    · rw [if_neg (fun h9 => c2 h9.2)]
      refine lZ1 (hI.self ?_)
      unfold fX11_areKin
      rw [o_0, sb, c_needR hV.1 hI.1.rs a1 a2, sb, if_pos c1]
      simp only []
      rw [o_0, sb, c_needR hV.1 hI.1.rs b1 b2, sb, if_neg c2]
  · rw [if_neg (fun h9 => c1 h9.1)]
    refine lZ1 (hI.self ?_)
    unfold fX11_areKin
    rw [o_0, sb, c_needR hV.1 hI.1.rs a1 a2, sb, if_neg c1]
theorem kr_areKin (hR : RV s g) {a b : Int} (a1 : -2147483648 ≤ a) (a2 : a ≤ 2147483647) (b1 : -2147483648 ≤ b) (b2 : b ≤ 2147483647) : RA h s g (fX12_areKin (M h s) (h + 308) (i32 a) (i32 b)) (knV g.1 a b).1 (knV g.1 a b).2 := by
  have hV := hR.1.2.2
  have hR0 : RV (thr s 0) g := (rv_thr hR)
  have hno : fJX12_areKin_m_26 (M h (thr s 0)) (h + 308) (i32 a) (i32 b) (h + 308) = some (0, M h (thr s 1)) := by
    unfold fJX12_areKin_m_26 fJX12_areKin_m_27
    rw [o_308, sb, r_nayt, sb, if_pos rfl]
  unfold fX12_areKin knV
  rw [w_thr, sb, o_308, sb, r_isRule hV.1 hR0.row a1 a2, sb]
  by_cases c1 : 0 ≤ a ∧ a < nr g.1.1
  · rw [if_pos c1, if_neg n10, sb, r_isRule hV.1 hR0.row b1 b2, sb]
    by_cases c2 : 0 ≤ b ∧ b < nr g.1.1
    · rw [if_pos c2, if_neg n10, if_pos ⟨c1, c2⟩]
      obtain ⟨q, rfl⟩ := nat_of c1.1
      obtain ⟨r, rfl⟩ := nat_of c2.1
      obtain ⟨v, f, e1, e2⟩ := r_kin (h := h) hV.1 hR0.row (show q < nr g.1.1 by omega) (show r < nr g.1.1 by omega) (show (thr s 0).1 308 0 = 0 from thr_0)
      have hf : Rf [] [] 321 321 (thr s 0) (mI (thr s 0) 321 f) := Rf.rf.mI (by decide) (by decide) (by decide)
      rw [e1]
      simp only [tn0]
      rcases e2 with ⟨rfl, e2⟩ | ⟨rfl, e2⟩
      · rw [if_pos e2]
        exact ra_rf hR hf (by omega) (by decide) (by decide) (by decide) (by decide) (by decide) (by decide) rfl
      · rw [if_neg e2]
        exact ra_rf hR hf (by omega) (by decide) (by decide) (by decide) (by decide) (by decide) (by decide) rfl
    · rw [if_neg c2, if_pos rfl, if_neg (fun h9 => c2 h9.2), hno]
      exact ra_exc hR (by decide) rfl
  · rw [if_neg c1, if_pos rfl, if_neg (fun h9 => c1 h9.1), hno]
    exact ra_exc hR (by decide) rfl
theorem k27 {sx : Nat → Int32} {L : Nat} {i : Int32} {y : Nat → Int32} (hI : Inv s N g) (hN : N ≤ 900000) (hy : Sc5 sx L i y) : KOK h N (fK27 sx L (h + 0) (h + 308) (h + 339) i (M h s)) := by
  obtain ⟨y1, y2, y3, y4, y5⟩ := hy
  obtain ⟨a, ea, a1, a2⟩ := i32_ex (y 1)
  obtain ⟨b, eb, b1, b2⟩ := i32_ex (y 2)
  rw [ea] at y1
  rw [eb] at y2
  unfold fK27
  simp only [y1, y2, sb]
  obtain ⟨v1, v2⟩ := knV_b (X := g.1) (a := a) (b := b)
  exact kstdB (h := h) (oR := fun σ => fX12_areKin σ (h + 308) (i32 a) (i32 b)) hN hI.2.2.1 v1 v2 (kc_areKin hI a1 a2 b1 b2) (fun s1 _ r1 => kr_areKin r1 a1 a2 b1 b2)
end HX
