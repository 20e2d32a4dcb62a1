/-! DRAWINGS in the reference: a step, the canon, the whole -/
section ZR
variable {h : Nat} {s : Mm}
/-- the reference's cells of a place: told, steps -/
def Pr (f : Nat → Int64) (q : Nat) (t : List Nat) (c : List (Nat × Nat)) : Prop := f (36 + 43 * q + 1) = i64 (r6 t : Int) ∧ f (36 + 43 * q + 2) = i64 (c.length : Int) ∧ (∀ k, k < c.length → f (36 + 43 * q + 3 + k) = i64 ((16 * (c.getD k (0, 0)).2 + (c.getD k (0, 0)).1 : Nat) : Int)) ∧ c.length ≤ 40
theorem r_pl {q w : Nat} : fX12_place (i32 (q : Int)) (i32 (w : Int)) = some (i32 ((36 + 43 * q + w : Nat) : Int)) := by
  unfold fX12_place
  rw [q36, q43, m32, a32, a32]
  congr 2
theorem r_stepsOf {q : Nat} (hq : q < 6) {t : List Nat} {c : List (Nat × Nat)} (hP : Pr (s.2 309) q t c) : fX12_stepsOf (M h s) (h + 308) (i32 (q : Int)) = some (i32 (c.length : Int)) := by
  unfold fX12_stepsOf
  rw [g_308_1, sb, show (2 : Int32) = i32 ((2 : Nat) : Int) from q2, r_pl, sb, a_309 (by omega) (by omega), sb, tn0, hP.2.1, toI]
theorem r_cell {q k : Nat} (hq : q < 6) {t : List Nat} {c : List (Nat × Nat)} (hP : Pr (s.2 309) q t c) (hk : k < c.length) : ((fX12_place (i32 (q : Int)) (3 + i32 (k : Int))).bind fun w8 => aL (M h s) (h + 309) w8) = some (i64 ((16 * (c.getD k (0, 0)).2 + (c.getD k (0, 0)).1 : Nat) : Int)) := by
  have := hP.2.2.2
  rw [q3, a32, show i32 ((3 : Int) + (k : Int)) = i32 (((3 + k : Nat)) : Int) from rfl, r_pl, sb, a_309 (by omega) (by omega), tn0, ← Nat.add_assoc, hP.2.2.1 k hk]
theorem r_ruleOf {q k : Nat} (hq : q < 6) {t : List Nat} {c : List (Nat × Nat)} (hP : Pr (s.2 309) q t c) (hk : k < c.length) (hc : (c.getD k (0, 0)).1 < 16 ∧ (c.getD k (0, 0)).2 < 12) : fX12_ruleOf (M h s) (h + 308) (i32 (q : Int)) (i32 (k : Int)) = some (i32 ((c.getD k (0, 0)).2 : Int)) := by
  have := hP.2.2.2
  unfold fX12_ruleOf
  rw [g_308_1, sb, q3, a32, show i32 ((3 : Int) + (k : Int)) = i32 (((3 + k : Nat)) : Int) from rfl, r_pl, sb, a_309 (by omega) (by omega), sb, tn0, ← Nat.add_assoc, hP.2.2.1 k hk, show (16 : Int64) = i64 ((16 : Nat) : Int) from by decide, div64 (by omega) (by decide), toI]
  congr 3; omega
theorem r_whereOf {q k : Nat} (hq : q < 6) {t : List Nat} {c : List (Nat × Nat)} (hP : Pr (s.2 309) q t c) (hk : k < c.length) (hc : (c.getD k (0, 0)).1 < 16 ∧ (c.getD k (0, 0)).2 < 12) : fX12_whereOf (M h s) (h + 308) (i32 (q : Int)) (i32 (k : Int)) = some (i32 ((c.getD k (0, 0)).1 : Int)) := by
  have := hP.2.2.2
  unfold fX12_whereOf
  rw [g_308_1, sb, q3, a32, show i32 ((3 : Int) + (k : Int)) = i32 (((3 + k : Nat)) : Int) from rfl, r_pl, sb, a_309 (by omega) (by omega), sb, tn0, ← Nat.add_assoc, hP.2.2.1 k hk, show (16 : Int64) = i64 ((16 : Nat) : Int) from by decide, rem64 (by omega) (by decide), toI]
  congr 3; omega
def Ym (s : Mm) (T : List Ztp) (ev : Nat) : Prop := ∀ i, i < ev → s.1 325 i = i32 (oI (zmk T i))
def Yk (s : Mm) (T : List Ztp) (ev : Nat) : Prop := ∀ i, i < ev → (s.1 326 i = -1 ∧ ∀ k, k < T.length → i ∉ zA T k) ∨ ∃ k, k < T.length ∧ s.1 326 i = i32 (k : Int) ∧ i ∈ zA T k
def Ys (s : Mm) (T : List Ztp) : Prop := ∀ k, k < T.length → Yt s k (zA T k) ∧ s.1 330 k = i32 (zM T k : Int) ∧ s.1 329 k = i32 (zF T k : Int) ∧ s.1 331 k = i32 (zR T k : Int) ∧ s.1 332 k = i32 (zN T k : Int)
def DR (s : Mm) (D : Dst) : Prop := Yr s D.1 ∧ s.1 308 44 = i32 (D.2.1 : Int) ∧ Ym s D.2.2 D.2.1 ∧ Yk s D.2.2 D.2.1 ∧ Ys s D.2.2
/-- the letters that a step takes are gone through -/
theorem r_zon {T : List Ztp} {R : List Nat} {p k a ev : Nat} (hk : k < 40) (hR : Yr s R) (hp : p + a ≤ R.length) (hR16 : R.length ≤ 16) (ha : s.1 328 k = i32 (a : Int)) (hev : ev ≤ 656) (hM : Ym s T ev) (hb : ∀ i ∈ R, i < ev) (hTl : T.length ≤ k) (hr : ∀ m, m < T.length → s.1 331 m = i32 (zR T m : Int)) (hrb : ∀ m, m < T.length → zR T m ≤ 1000) (hr1 : s.1 331 k = 1) :
    ∃ s', iterP (fLX12_laysStep_61 (h + 308) (i32 (k : Int)) (i32 (p : Int))) (0, 0, 0, M h s) = some (i32 ((zsn T (ztk R p a)).1.length : Int), M h s') ∧ Fy [326, 327, 331] [] s s' ∧ (∀ j, ¬ (16 * k ≤ j ∧ j < 16 * k + 16) → s'.1 327 j = s.1 327 j) ∧ (∀ j, j < a → s'.1 327 (16 * k + j) = i32 ((R.getD (p + j) 0 : Nat) : Int)) ∧ (∀ i, i ∉ ztk R p a → s'.1 326 i = s.1 326 i) ∧ (∀ i, i ∈ ztk R p a → s'.1 326 i = i32 (k : Int)) ∧ (∀ m, m ≠ k → s'.1 331 m = s.1 331 m) ∧ s'.1 331 k = i32 (((zsn T (ztk R p a)).2 + 1 : Nat) : Int) := by
  have hAl : (ztk R p a).length = a := ztk_len hp
  have hzb : ∀ t, (zsk T (ztk R p a) t).2 ≤ 1000 := fun t => (zsn_b (T := T) (n := 1000) hrb ((ztk R p a).take t) ([], 0) (by decide)).1
  have hz40 : ∀ t, t ≤ a → ∀ m ∈ (zsk T (ztk R p a) t).1, m < 40 := fun t ht m hm => by
    obtain ⟨j, hj, e⟩ := (zsk_mem (by omega)).mp hm
    have := zmk_lt e
    omega
  have hget : ∀ t, t < a → (ztk R p a).getD t 0 = R.getD (p + t) 0 := fun t ht => ztk_get ht
  have key : ∃ y, iterP (fLX12_laysStep_61 (h + 308) (i32 (k : Int)) (i32 (p : Int))) (0, 0, 0, M h s) = some y ∧ ∃ s', y = (i32 ((zsn T (ztk R p a)).1.length : Int), M h s') ∧ Fy [326, 327, 331] [] s s' ∧ (∀ j, ¬ (16 * k ≤ j ∧ j < 16 * k + 16) → s'.1 327 j = s.1 327 j) ∧ (∀ j, j < a → s'.1 327 (16 * k + j) = i32 ((R.getD (p + j) 0 : Nat) : Int)) ∧ (∀ i, i ∉ ztk R p a → s'.1 326 i = s.1 326 i) ∧ (∀ i, i ∈ ztk R p a → s'.1 326 i = i32 (k : Int)) ∧ (∀ m, m ≠ k → s'.1 331 m = s.1 331 m) ∧ s'.1 331 k = i32 (((zsn T (ztk R p a)).2 + 1 : Nat) : Int) := by
    refine loop_ex (fun t x => ∃ s', x = (i32 ((zsk T (ztk R p a) t).1.length : Int), i64 (zbt (zsk T (ztk R p a) t).1 : Int), i32 (t : Int), M h s') ∧ Fy [326, 327, 331] [] s s' ∧ (∀ j, ¬ (16 * k ≤ j ∧ j < 16 * k + 16) → s'.1 327 j = s.1 327 j) ∧ (∀ j, j < t → s'.1 327 (16 * k + j) = i32 ((R.getD (p + j) 0 : Nat) : Int)) ∧ (∀ i, (∀ j, j < t → R.getD (p + j) 0 ≠ i) → s'.1 326 i = s.1 326 i) ∧ (∀ j, j < t → s'.1 326 (R.getD (p + j) 0) = i32 (k : Int)) ∧ (∀ m, m ≠ k → s'.1 331 m = s.1 331 m) ∧ s'.1 331 k = i32 (((zsk T (ztk R p a) t).2 + 1 : Nat) : Int)) _ a (fun t x ht hx => ?_) (fun x hx => ?_) ⟨s, rfl, Fy.rf, fun j _ => rfl, fun j hj => absurd hj (by omega), fun i _ => rfl, fun j hj => absurd hj (by omega), fun m _ => rfl, by rw [hr1]; rfl⟩
    · obtain ⟨s1, rfl, f1, f2, f3, f4, f5, f6, f7⟩ := hx
      have x1 := hb _ (getD_mem (d := 0) (show p + t < R.length by omega))
      have hR1 : Yr s1 R := hR.fy f1 (by decide) (by decide)
      have ha1 : s1.1 328 k = i32 (a : Int) := by rw [f1.2.1 328 (by decide) (by decide)]; exact ha
      obtain ⟨s2, es2⟩ : ∃ s2, s2 = mI s1 327 (upd (s1.1 327) (16 * k + t) (i32 ((R.getD (p + t) 0 : Nat) : Int))) := ⟨_, rfl⟩
      obtain ⟨s3, es3⟩ : ∃ s3, s3 = mI s2 326 (upd (s2.1 326) (R.getD (p + t) 0) (i32 (k : Int))) := ⟨_, rfl⟩
      have h3 : Fy [326, 327, 331] [] s s3 := by rw [es3, es2]; exact (f1.mI (by decide) (by decide)).mI (by decide) (by decide)
      have a327 : s3.1 327 = upd (s1.1 327) (16 * k + t) (i32 ((R.getD (p + t) 0 : Nat) : Int)) := by rw [es3, mI_ne (by decide), es2, mI_at]
      have a326 : s3.1 326 = upd (s1.1 326) (R.getD (p + t) 0) (i32 (k : Int)) := by rw [es3, mI_at, es2, mI_ne (by decide)]
      have a331 : s3.1 331 = s1.1 331 := by rw [es3, mI_ne (by decide), es2, mI_ne (by decide)]
      have a325 : s3.1 325 (R.getD (p + t) 0) = i32 (oI (zmk T (R.getD (p + t) 0))) := by rw [h3.2.1 325 (by decide) (by decide)]; exact hM _ x1
      have w2 : sI (M h s1) (h + 327) (i32 ((16 : Int) * (k : Int) + (t : Int))) (i32 ((R.getD (p + t) 0 : Nat) : Int)) = some (M h s2) := by rw [s_327 (by omega) (by omega), show ((16 : Int) * (k : Int) + (t : Int)).toNat = 16 * k + t by omega, es2]
      have w3 : sI (M h s2) (h + 326) (i32 ((R.getD (p + t) 0 : Nat) : Int)) (i32 (k : Int)) = some (M h s3) := by rw [s_326 (by omega) (by omega), tn0, es3]
      have hz := hzb t
      have p2 : ∀ j, ¬ (16 * k ≤ j ∧ j < 16 * k + 16) → s3.1 327 j = s.1 327 j := fun j hj => by rw [a327, upd_ne (by omega)]; exact f2 j hj
      have p3 : ∀ j, j < t + 1 → s3.1 327 (16 * k + j) = i32 ((R.getD (p + j) 0 : Nat) : Int) := fun j hj => by
        rw [a327]
        by_cases c : j = t
        · subst c
          rw [upd_at]
        · rw [upd_ne (by omega)]; exact f3 j (by omega)
      have p4 : ∀ i, (∀ j, j < t + 1 → R.getD (p + j) 0 ≠ i) → s3.1 326 i = s.1 326 i := fun i hi => by
        rw [a326, upd_ne (fun e => hi t (by omega) e.symm)]
        exact f4 i (fun j hj => hi j (by omega))
      have p5 : ∀ j, j < t + 1 → s3.1 326 (R.getD (p + j) 0) = i32 (k : Int) := fun j hj => by
        rw [a326]
        by_cases c : R.getD (p + j) 0 = R.getD (p + t) 0
        · rw [c, upd_at]
        · rw [upd_ne c]
          have : j ≠ t := fun e => c (by rw [e])
          exact f5 j (by omega)
      have p6 : ∀ m, m ≠ k → s3.1 331 m = s.1 331 m := fun m hm => by rw [a331]; exact f6 m hm
      unfold fLX12_laysStep_61
      simp only []
      rw [g_308_46, sb, a_328 (by omega) (by omega), sb, tn0, ha1, if_neg (by rw [le32 (by omega) (by omega) (by omega) (by omega)]; omega), g_308_54, sb, a32, a_336 (by omega) (by omega), sb, show ((p : Int) + (t : Int)).toNat = p + t by omega, hR1.2 _ (by omega), g_308_45, sb, q16, m32, a32, w2, sb, g_308_43, sb, w3, sb, g_308_42, sb, a_325 (by omega) (by omega), sb, tn0, a325]
      cases em : zmk T (R.getD (p + t) 0) with
      | none =>
        have e1 : zsk T (ztk R p a) (t + 1) = zsk T (ztk R p a) t := by rw [zsk_succ (by omega), hget t ht]; unfold zs1; rw [em]
        refine ⟨_, ?_, s3, rfl, h3, p2, p3, p4, p5, p6, by rw [a331, e1]; exact f7⟩
        rw [if_pos (show i32 (oI none) = -1 from rfl), xlet_eq, q1, a32, e1]; rfl
      | some m =>
        have hm := zmk_lt em
        rw [if_neg (by rw [qm1]; unfold oI; simp only []; rw [eq32 (by omega) (by omega) (by omega) (by omega)]; omega), show i32 (oI (some m)) = i32 (m : Int) from rfl]
        have hmet := zbt_met (hz40 t (by omega)) (m := m) (by omega)
        by_cases c : m ∈ (zsk T (ztk R p a) t).1
        · have e1 : zsk T (ztk R p a) (t + 1) = zsk T (ztk R p a) t := by
            rw [zsk_succ (by omega), hget t ht]; unfold zs1; rw [em]; simp only []; rw [if_pos c]
          refine ⟨_, ?_, s3, rfl, h3, p2, p3, p4, p5, p6, by rw [a331, e1]; exact f7⟩
          rw [if_pos (by rw [hmet]; exact c), xlet_eq, q1, a32, e1]; rfl
        · have e1 : zsk T (ztk R p a) (t + 1) = ((zsk T (ztk R p a) t).1 ++ [m], max (zsk T (ztk R p a) t).2 (zR T m)) := by
            rw [zsk_succ (by omega), hget t ht]; unfold zs1; rw [em]; simp only []; rw [if_neg c]
          have hrm := hrb m hm
          have b1 : s3.1 331 k = i32 (((zsk T (ztk R p a) t).2 + 1 : Nat) : Int) := by rw [a331]; exact f7
          have b2 : s3.1 331 m = i32 (zR T m : Int) := by rw [p6 m (by omega)]; exact hr m hm
          refine ⟨(i32 ((zsk T (ztk R p a) (t + 1)).1.length : Int), i64 (zbt (zsk T (ztk R p a) (t + 1)).1 : Int), i32 ((t + 1 : Nat) : Int), M h (mI s3 331 (upd (s3.1 331) k (i32 ((max ((zsk T (ztk R p a) t).2 + 1) (zR T m + 1) : Nat) : Int))))), ?_, _, rfl, h3.mI (by decide) (by decide), ?_, ?_, ?_, ?_, ?_, ?_⟩
          · rw [if_neg (by rw [hmet]; exact c), xlet_eq, xlet_eq, g_308_49, sb, sb, a_331 (by omega) (by omega), sb, tn0, b1, sb, a_331 (by omega) (by omega), sb, tn0, b2, q1, a32, a32, a32, show i32 ((zR T m : Int) + 1) = i32 (((zR T m + 1 : Nat)) : Int) from rfl, imax_of (by omega) (by omega), s_331 (by omega) (by omega), sb, tn0, xlet_eq, toL (by omega) (by omega), show (1 : Int64) = i64 ((1 : Nat) : Int) from by decide, shl64 (by omega), or64, Nat.one_mul, e1, zbt_app, List.length_append]
            rfl
          · intro j hj
            rw [mI_ne (by decide)]; exact p2 j hj
          · intro j hj
            rw [mI_ne (by decide)]; exact p3 j hj
          · intro i hi
            rw [mI_ne (by decide)]; exact p4 i hi
          · intro j hj
            rw [mI_ne (by decide)]; exact p5 j hj
          · intro q hq
            rw [mI_at, upd_ne hq]; exact p6 q hq
          · rw [mI_at, upd_at, e1]
            simp only []
            congr 2; omega
    · obtain ⟨s1, rfl, f1, f2, f3, f4, f5, f6, f7⟩ := hx
      have ha1 : s1.1 328 k = i32 (a : Int) := by rw [f1.2.1 328 (by decide) (by decide)]; exact ha
      have eall : zsk T (ztk R p a) a = zsn T (ztk R p a) := by
        have := zsk_all (T := T) (A := ztk R p a)
        rw [hAl] at this
        exact this
      rw [eall] at f7
      refine ⟨(i32 ((zsn T (ztk R p a)).1.length : Int), M h s1), ?_, s1, rfl, f1, f2, f3, fun i hi => f4 i (fun j hj e => hi ?_), fun i hi => ?_, f6, f7⟩
      · unfold fLX12_laysStep_61
        simp only []
        rw [g_308_46, sb, a_328 (by omega) (by omega), sb, tn0, ha1, if_pos (by rw [le32 (by omega) (by omega) (by omega) (by omega)]; omega), eall]
      · rw [← e, ← hget j hj]; exact getD_mem (by omega)
      · obtain ⟨j, hj, e⟩ := mem_getD (d := 0) hi
        rw [hAl] at hj
        rw [hget j hj] at e
        rw [← e]; exact f5 j hj
  obtain ⟨y, e1, s', rfl, f1⟩ := key
  exact ⟨s', e1, f1⟩
theorem r_adds {k ev n : Nat} {x3 : Int32} (hk : k < 40) (he : s.1 308 44 = i32 (ev : Int)) (hn : ev + n ≤ 656) (hb : s.1 330 k = i32 (n : Int)) : ∃ s', iterP (fLX12_laysStep_198 (h + 308) (i32 (k : Int)) x3) (0, M h s) = some (M h s') ∧ Fy [325, 326] [44] s s' ∧ s'.1 308 44 = i32 ((ev + n : Nat) : Int) ∧ (∀ j, j < ev → s'.1 325 j = s.1 325 j ∧ s'.1 326 j = s.1 326 j) ∧ (∀ j, ev ≤ j → j < ev + n → s'.1 325 j = i32 (k : Int) ∧ s'.1 326 j = -1) := by
  have key : ∃ y, iterP (fLX12_laysStep_198 (h + 308) (i32 (k : Int)) x3) (0, M h s) = some y ∧ ∃ s', y = M h s' ∧ Fy [325, 326] [44] s s' ∧ s'.1 308 44 = i32 ((ev + n : Nat) : Int) ∧ (∀ j, j < ev → s'.1 325 j = s.1 325 j ∧ s'.1 326 j = s.1 326 j) ∧ (∀ j, ev ≤ j → j < ev + n → s'.1 325 j = i32 (k : Int) ∧ s'.1 326 j = -1) := by
    refine loop_ex (fun m x => ∃ s', x = (i32 (m : Int), M h s') ∧ Fy [325, 326] [44] s s' ∧ s'.1 308 44 = i32 ((ev + m : Nat) : Int) ∧ (∀ j, j < ev → s'.1 325 j = s.1 325 j ∧ s'.1 326 j = s.1 326 j) ∧ (∀ j, ev ≤ j → j < ev + m → s'.1 325 j = i32 (k : Int) ∧ s'.1 326 j = -1)) _ n (fun m x hm hx => ?_) (fun x hx => ?_) ⟨s, rfl, Fy.rf, he, fun j _ => ⟨rfl, rfl⟩, fun j a b => absurd b (by omega)⟩
    · obtain ⟨s1, rfl, f1, f2, f3, f4⟩ := hx
      obtain ⟨s2, e2, g1, g2, g3, g4⟩ := r_draws (h := h) (s := s1) (ev := ev + m) (v := i32 (k : Int)) f2 (by omega)
      refine ⟨(i32 ((m + 1 : Nat) : Int), M h s2), ?_, s2, rfl, f1.tr g1, g2, fun j hj => ?_, fun j a b => ?_⟩
      · unfold fLX12_laysStep_198
        simp only []
        rw [g_308_48, sb, a_330 (by omega) (by omega), sb, tn0, f1.2.1 330 (by decide) (by decide), hb, if_neg (by rw [le32 (by omega) (by omega) (by omega) (by omega)]; omega), o_308, sb, e2, sb, xlet_eq, q1, a32]; rfl
      · rw [g3, g4, upd_ne (by omega), upd_ne (by omega)]; exact f3 j hj
      · rw [g3, g4]
        by_cases c : j = ev + m
        · subst c
          rw [upd_at, upd_at]; exact ⟨rfl, rfl⟩
        · rw [upd_ne c, upd_ne c]; exact f4 j a (by omega)
    · obtain ⟨s1, rfl, f1⟩ := hx
      refine ⟨M h s1, ?_, s1, rfl, f1⟩
      unfold fLX12_laysStep_198
      simp only []
      rw [g_308_48, sb, a_330 (by omega) (by omega), sb, tn0, f1.1.2.1 330 (by decide) (by decide), hb, if_pos (by rw [le32 (by omega) (by omega) (by omega) (by omega)]; omega)]
  obtain ⟨y, e1, s', rfl, f1⟩ := key
  exact ⟨s', e1, f1⟩
theorem r_zstep {S : Sys} (hS : WfS S) (hRS : RR (s.2 309) S) {q k n0 : Nat} (hq : q < 6) {t : List Nat} {c : List (Nat × Nat)} (hP : Pr (s.2 309) q t c) (hkc : k < c.length) (hn0 : n0 ≤ 16) {D : Dst} (hI : ZI n0 D) (hC : DR s D) {p r : Nat} (hpr : c.getD k (0, 0) = (p, r)) (hr : r < nr S) (hp16 : p < 16) (hp : p + (rl S r).length ≤ D.1.length) (h16 : D.1.length ≤ 16) (h16b : D.1.length + (rr S r).length ≤ 16 + (rl S r).length) (hk : D.2.2.length = k) : ∃ s', fX12_laysStep (M h s) (h + 308) (i32 (q : Int)) (i32 (k : Int)) = some (M h s') ∧ Fy [325, 326, 327, 328, 329, 330, 331, 332, 336] [44, 55] s s' ∧ DR s' (zd1 D p (rl S r).length (rr S r).length) := by
  obtain ⟨R, ev, T⟩ := D
  obtain ⟨i1, i2, i3, i4, i5, i6, i7, i8⟩ := id hI
  obtain ⟨c1, c2, c3, c4, c5⟩ := hC
  simp only [] at i1 i2 i3 i4 i5 i6 i7 i8 hp h16 h16b hk c1 c2 c3 c4 c5
  have h40 := hP.2.2.2
  have h12 := hS.2.1
  have hwl := wl hS hr
  have hwr := wr hS hr
  have hl16 := hwl.1
  have hr16 := hwr.1
  have ha1 : 1 ≤ (rl S r).length := List.length_pos_iff.mpr (hS.2.2.1 r hr).2.2
  have hev : ev ≤ 640 := by omega
  have hAl : (ztk R p (rl S r).length).length = (rl S r).length := ztk_len hp
  have hcb : (c.getD k (0, 0)).1 < 16 ∧ (c.getD k (0, 0)).2 < 12 := by rw [hpr]; exact ⟨hp16, by show r < 12; omega⟩
  obtain ⟨s1, es1⟩ : ∃ s1, s1 = mI s 328 (upd (s.1 328) k (i32 ((rl S r).length : Int))) := ⟨_, rfl⟩
  obtain ⟨s2, es2⟩ : ∃ s2, s2 = mI s1 330 (upd (s1.1 330) k (i32 ((rr S r).length : Int))) := ⟨_, rfl⟩
  obtain ⟨s3, es3⟩ : ∃ s3, s3 = mI s2 331 (upd (s2.1 331) k 1) := ⟨_, rfl⟩
  have f1 : Fy [325, 326, 327, 328, 329, 330, 331, 332, 336] [44, 55] s s1 := by rw [es1]; exact Fy.rf.mI (by decide) (by decide)
  have f3 : Fy [325, 326, 327, 328, 329, 330, 331, 332, 336] [44, 55] s s3 := by rw [es3, es2]; exact (f1.mI (by decide) (by decide)).mI (by decide) (by decide)
  have g3 : ∀ i, i ≠ 328 → i ≠ 330 → i ≠ 331 → s3.1 i = s.1 i := fun i a b c => by rw [es3, mI_ne c, es2, mI_ne b, es1, mI_ne a]
  have g38 : s3.1 328 = upd (s.1 328) k (i32 ((rl S r).length : Int)) := by rw [es3, mI_ne (by decide), es2, mI_ne (by decide), es1, mI_at]
  have g30 : s3.1 330 = upd (s.1 330) k (i32 ((rr S r).length : Int)) := by rw [es3, mI_ne (by decide), es2, mI_at, es1, mI_ne (by decide)]
  have g31 : s3.1 331 = upd (s.1 331) k 1 := by rw [es3, mI_at, es2, mI_ne (by decide), es1, mI_ne (by decide)]
  have hR3 : Yr s3 R := ⟨by rw [g3 308 (by decide) (by decide) (by decide)]; exact c1.1, fun j hj => by rw [g3 336 (by decide) (by decide) (by decide)]; exact c1.2 j hj⟩
  have hM3 : Ym s3 T ev := fun i hi => by rw [g3 325 (by decide) (by decide) (by decide)]; exact c3 i hi
  obtain ⟨s4, e4, k1, k2, k3, k4, k5, k6, k7⟩ := r_zon (h := h) (s := s3) (T := T) (R := R) (p := p) (k := k) (a := (rl S r).length) (ev := ev) (by omega) hR3 hp h16 (by rw [g38, upd_at]) (by omega) hM3 i4 (by omega) (fun m hm => by rw [g31, upd_ne (by omega)]; exact (c5 m hm).2.2.2.1) (fun m hm => by have := (i7 m hm).2.2.2.1; omega) (by rw [g31, upd_at])
  obtain ⟨s5, es5⟩ : ∃ s5, s5 = mI s4 332 (upd (s4.1 332) k (i32 ((zsn T (ztk R p (rl S r).length)).1.length : Int))) := ⟨_, rfl⟩
  obtain ⟨s6, es6⟩ : ∃ s6, s6 = mI s5 329 (upd (s5.1 329) k (i32 (ev : Int))) := ⟨_, rfl⟩
  have f4 : Fy [325, 326, 327, 328, 329, 330, 331, 332, 336] [44, 55] s s4 := f3.tr (k1.mono (by decide) (by decide))
  have f6 : Fy [325, 326, 327, 328, 329, 330, 331, 332, 336] [44, 55] s s6 := by rw [es6, es5]; exact (f4.mI (by decide) (by decide)).mI (by decide) (by decide)
  have g6 : ∀ i, i ≠ 332 → i ≠ 329 → s6.1 i = s4.1 i := fun i a b => by rw [es6, mI_ne b, es5, mI_ne a]
  have g4 : ∀ i, i ≠ 308 → i ≠ 326 → i ≠ 327 → i ≠ 331 → s4.1 i = s3.1 i := fun i z a b c => k1.2.1 i z (by simp [a, b, c])
  have g62 : s6.1 332 = upd (s.1 332) k (i32 ((zsn T (ztk R p (rl S r).length)).1.length : Int)) := by rw [es6, mI_ne (by decide), es5, mI_at, g4 332 (by decide) (by decide) (by decide) (by decide), g3 332 (by decide) (by decide) (by decide)]
  have g69 : s6.1 329 = upd (s.1 329) k (i32 (ev : Int)) := by rw [es6, mI_at, es5, mI_ne (by decide), g4 329 (by decide) (by decide) (by decide) (by decide), g3 329 (by decide) (by decide) (by decide)]
  have a44 : s4.1 308 44 = i32 (ev : Int) := by rw [k1.2.2 44 (by decide), g3 308 (by decide) (by decide) (by decide)]; exact c2
  have a54 : s5.1 308 44 = i32 (ev : Int) := by rw [es5, mI_ne (by decide)]; exact a44
  have a64 : s6.1 308 44 = i32 (ev : Int) := by rw [es6, mI_ne (by decide)]; exact a54
  have g60 : s6.1 330 = upd (s.1 330) k (i32 ((rr S r).length : Int)) := by rw [g6 330 (by decide) (by decide), g4 330 (by decide) (by decide) (by decide) (by decide), g30]
  obtain ⟨s7, e7, n1, n2, n3, n4⟩ := r_adds (h := h) (s := s6) (k := k) (ev := ev) (n := (rr S r).length) (x3 := i32 (p : Int)) (by omega) a64 (by omega) (by rw [g60, upd_at])
  have f7 : Fy [325, 326, 327, 328, 329, 330, 331, 332, 336] [44, 55] s s7 := f6.tr (n1.mono (by decide) (by decide))
  have g7 : ∀ i, i ≠ 308 → i ≠ 325 → i ≠ 326 → s7.1 i = s6.1 i := fun i z a b => n1.2.1 i z (by simp [a, b])
  have g78 : s7.1 328 = upd (s.1 328) k (i32 ((rl S r).length : Int)) := by rw [g7 328 (by decide) (by decide) (by decide), g6 328 (by decide) (by decide), g4 328 (by decide) (by decide) (by decide) (by decide), g38]
  have g70 : s7.1 330 = upd (s.1 330) k (i32 ((rr S r).length : Int)) := by rw [g7 330 (by decide) (by decide) (by decide), g60]
  have g79 : s7.1 329 = upd (s.1 329) k (i32 (ev : Int)) := by rw [g7 329 (by decide) (by decide) (by decide), g69]
  have hR7 : Yr s7 R := by
    refine ⟨?_, fun j hj => ?_⟩
    · rw [n1.2.2 55 (by decide), g6 308 (by decide) (by decide), k1.2.2 55 (by decide), g3 308 (by decide) (by decide) (by decide)]; exact c1.1
    · rw [g7 336 (by decide) (by decide) (by decide), g6 336 (by decide) (by decide), g4 336 (by decide) (by decide) (by decide) (by decide)]; exact hR3.2 j hj
  obtain ⟨s8, e8, o1, o2⟩ := r_zrep (h := h) (s := s7) (R := R) (p := p) (k := k) (a := (rl S r).length) (b := (rr S r).length) (f := ev) (by omega) hR7 (by rw [g78, upd_at]) (by rw [g70, upd_at]) (by rw [g79, upd_at]) hp ha1 (by omega) (by omega) (by omega)
  have f8 : Fy [325, 326, 327, 328, 329, 330, 331, 332, 336] [44, 55] s s8 := f7.tr (o1.mono (by decide) (by decide))
  have g8 : ∀ i, i ≠ 308 → i ≠ 336 → s8.1 i = s7.1 i := fun i z a => o1.2.1 i z (by simpa using a)
  have hold : ∀ k', k' < T.length → zst (T ++ [znw (R, ev, T) p (rl S r).length (rr S r).length]) k' = zst T k' := fun k' hk' => zst_app1 hk'
  have hnew : zst (T ++ [znw (R, ev, T) p (rl S r).length (rr S r).length]) T.length = znw (R, ev, T) p (rl S r).length (rr S r).length := zst_app2
  have hTl : (T ++ [znw (R, ev, T) p (rl S r).length (rr S r).length]).length = T.length + 1 := by rw [List.length_append]; rfl
  have hAn : zA (T ++ [znw (R, ev, T) p (rl S r).length (rr S r).length]) T.length = ztk R p (rl S r).length := by unfold zA; rw [hnew]; rfl
  have hRS1 : RR (s1.2 309) S := by rw [f1.1]; exact hRS
  refine ⟨s8, ?_, f8, o2, ?_, ?_, ?_, ?_⟩
  · have w1 : sI (M h s) (h + 328) (i32 (k : Int)) (i32 ((rl S r).length : Int)) = some (M h s1) := by rw [s_328 (by omega) (by omega), tn0, es1]
    have w2 : sI (M h s1) (h + 330) (i32 (k : Int)) (i32 ((rr S r).length : Int)) = some (M h s2) := by rw [s_330 (by omega) (by omega), tn0, es2]
    have w3 : sI (M h s2) (h + 331) (i32 (k : Int)) 1 = some (M h s3) := by rw [s_331 (by omega) (by omega), tn0, es3]
    have w5 : sI (M h s4) (h + 332) (i32 (k : Int)) (i32 ((zsn T (ztk R p (rl S r).length)).1.length : Int)) = some (M h s5) := by rw [s_332 (by omega) (by omega), tn0, es5]
    have w6 : sI (M h s5) (h + 329) (i32 (k : Int)) (i32 (ev : Int)) = some (M h s6) := by rw [s_329 (by omega) (by omega), tn0, es6]
    have ew : fX12_whereOf (M h s) (h + 308) (i32 (q : Int)) (i32 (k : Int)) = some (i32 (p : Int)) := by
      have := r_whereOf (h := h) (s := s) hq hP hkc hcb
      rw [hpr] at this
      exact this
    have er : fX12_ruleOf (M h s) (h + 308) (i32 (q : Int)) (i32 (k : Int)) = some (i32 (r : Int)) := by
      have := r_ruleOf (h := h) (s := s) hq hP hkc hcb
      rw [hpr] at this
      exact this
    unfold fX12_laysStep
    rw [o_308, sb, ew, sb, sb, er, sb, g_308_46, sb, sb, r_left hS hRS hr, sb, r_len hwl, sb, w1, sb, g_308_48, sb, o_308, sb, r_right hS hRS1 hr, sb, r_len hwr, sb, w2, sb, g_308_49, sb, w3, sb, e4, sb]
    simp only []
    rw [g_308_50, sb, w5, sb, g_308_47, sb, g_308_44, sb, a54, w6, sb, e7, sb, o_308, sb, e8, sb]
  · show s8.1 308 44 = i32 ((ev + (rr S r).length : Nat) : Int)
    rw [o1.2.2 44 (by decide)]; exact n2
  · intro i hi
    have hi : i < ev + (rr S r).length := hi
    show s8.1 325 i = i32 (oI (zmk (T ++ [znw (R, ev, T) p (rl S r).length (rr S r).length]) i))
    rw [g8 325 (by decide) (by decide), zmk_app (T := T) (x := znw (R, ev, T) p (rl S r).length (rr S r).length) (e := ev) (b := (rr S r).length) rfl rfl (fun k hk => (i7 k hk).1) i]
    by_cases c : i < ev
    · rw [if_neg (by omega), (n3 i c).1, g6 325 (by decide) (by decide), g4 325 (by decide) (by decide) (by decide) (by decide)]; exact hM3 i c
    · rw [if_pos (by omega), (n4 i (by omega) hi).1, hk]; rfl
  · intro i hi
    have hi : i < ev + (rr S r).length := hi
    show (s8.1 326 i = -1 ∧ ∀ k', k' < (T ++ [znw (R, ev, T) p (rl S r).length (rr S r).length]).length → i ∉ zA (T ++ [znw (R, ev, T) p (rl S r).length (rr S r).length]) k') ∨ ∃ k', k' < (T ++ [znw (R, ev, T) p (rl S r).length (rr S r).length]).length ∧ s8.1 326 i = i32 (k' : Int) ∧ i ∈ zA (T ++ [znw (R, ev, T) p (rl S r).length (rr S r).length]) k'
    rw [hTl, g8 326 (by decide) (by decide)]
    by_cases c : i < ev
    · rw [(n3 i c).2, g6 326 (by decide) (by decide)]
      by_cases c9 : i ∈ ztk R p (rl S r).length
      · refine Or.inr ⟨T.length, by omega, by rw [k5 i c9, hk], ?_⟩
        rw [hAn]; exact c9
      · rw [k4 i c9, g3 326 (by decide) (by decide) (by decide)]
        rcases c4 i c with ⟨q1', q2'⟩ | ⟨k', q1', q2', q3'⟩
        · refine Or.inl ⟨q1', fun k' hk' => ?_⟩
          by_cases ck : k' = T.length
          · subst ck
            rw [hAn]; exact c9
          · rw [zA_of (hold k' (by omega))]; exact q2' k' (by omega)
        · refine Or.inr ⟨k', by omega, q2', ?_⟩
          rw [zA_of (hold k' q1')]; exact q3'
    · rw [(n4 i (by omega) hi).2]
      refine Or.inl ⟨rfl, fun k' hk' => ?_⟩
      by_cases ck : k' = T.length
      · subst ck
        rw [hAn]
        exact fun hm => by have := i4 i (ztk_sub hm); omega
      · rw [zA_of (hold k' (by omega))]
        exact fun hm => by have := ((i5 k' (by omega)).2 i hm).1; omega
  · intro k' hk'
    have hk' : k' < (T ++ [znw (R, ev, T) p (rl S r).length (rr S r).length]).length := hk'
    rw [hTl] at hk'
    show Yt s8 k' (zA (T ++ [znw (R, ev, T) p (rl S r).length (rr S r).length]) k') ∧ s8.1 330 k' = i32 (zM (T ++ [znw (R, ev, T) p (rl S r).length (rr S r).length]) k' : Int) ∧ s8.1 329 k' = i32 (zF (T ++ [znw (R, ev, T) p (rl S r).length (rr S r).length]) k' : Int) ∧ s8.1 331 k' = i32 (zR (T ++ [znw (R, ev, T) p (rl S r).length (rr S r).length]) k' : Int) ∧ s8.1 332 k' = i32 (zN (T ++ [znw (R, ev, T) p (rl S r).length (rr S r).length]) k' : Int)
    have y8 : s8.1 328 = upd (s.1 328) k (i32 ((rl S r).length : Int)) := by rw [g8 328 (by decide) (by decide), g78]
    have y0 : s8.1 330 = upd (s.1 330) k (i32 ((rr S r).length : Int)) := by rw [g8 330 (by decide) (by decide), g70]
    have y9 : s8.1 329 = upd (s.1 329) k (i32 (ev : Int)) := by rw [g8 329 (by decide) (by decide), g79]
    have y7 : s8.1 327 = s4.1 327 := by rw [g8 327 (by decide) (by decide), g7 327 (by decide) (by decide) (by decide), g6 327 (by decide) (by decide)]
    have y1 : s8.1 331 = s4.1 331 := by rw [g8 331 (by decide) (by decide), g7 331 (by decide) (by decide) (by decide), g6 331 (by decide) (by decide)]
    have y2 : s8.1 332 = upd (s.1 332) k (i32 ((zsn T (ztk R p (rl S r).length)).1.length : Int)) := by rw [g8 332 (by decide) (by decide), g7 332 (by decide) (by decide) (by decide), g62]
    by_cases ck : k' = T.length
    · subst ck
      rw [hAn]
      unfold zM zF zR zN
      rw [hnew, y0, y9, y1, y2, hk, upd_at, upd_at, upd_at, k7]
      refine ⟨⟨by rw [y8, upd_at, hAl], fun j hj => ?_⟩, rfl, rfl, rfl, rfl⟩
      rw [hAl] at hj
      rw [y7, k3 j hj, ztk_get hj]
    · obtain ⟨v1, v2, v3, v4, v5⟩ := c5 k' (by omega)
      have hkk : k' ≠ k := by omega
      rw [zA_of (hold k' (by omega))]
      unfold zM zF zR zN
      rw [hold k' (by omega), y0, y9, y1, y2, upd_ne hkk, upd_ne hkk, upd_ne hkk, k6 k' hkk, g31, upd_ne hkk]
      refine ⟨⟨by rw [y8, upd_ne hkk]; exact v1.1, fun j hj => ?_⟩, v2, v3, v4, v5⟩
      have := (i7 k' (by omega)).2.1
      rw [y7, k2 _ (by omega), g3 327 (by decide) (by decide) (by decide)]
      exact v1.2 j hj
end ZR
