/-! DRAWINGS in the class: what a step stands on; a step is drawn -/
section ZC
variable {h d : Nat} {s : Mm} {T : List Ztp} {A : List Nat}
theorem oI_b {o : Option Nat} {n : Nat} (ho : ∀ m, o = some m → m < n) : -1 ≤ oI o ∧ oI o < n := by
  cases o with
  | none => exact ⟨by decide, by show (-1 : Int) < n; omega⟩
  | some m => have := ho m rfl; exact ⟨by show -1 ≤ (m : Int); omega, by show (m : Int) < n; omega⟩
theorem oI_eq {o : Option Nat} {m : Nat} : oI o = (m : Int) ↔ o = some m := by
  cases o with
  | none => exact ⟨fun h9 => absurd h9 (by show ¬ (-1 : Int) = m; omega), fun h9 => by cases h9⟩
  | some q => exact ⟨fun h9 => by rw [show q = m from Int.ofNat.inj h9], fun h9 => by cases h9; rfl⟩
/-- the makers of letters -/
def Zm (s : Mm) (d : Nat) (T : List Ztp) (ev : Nat) : Prop := ∀ i, i < ev → s.1 (d + 2) i = i32 (oI (zmk T i))
theorem c_zfirst (H : Hz d) {k t m ev : Nat} (hk : k < 40) (hT : Zt s d k A) (hA : A.length ≤ 16) (hev : ev ≤ 656) (hM : Zm s d T ev) (hb : ∀ i ∈ A, i < ev) (hTl : T.length ≤ 40) (ht : t ≤ A.length) (hm : m < 40) : fX3_isFirstOf (M h s) (h + d) (i32 (k : Int)) (i32 (t : Int)) (i32 (m : Int)) = some (if m ∈ (zsk T A t).1 then 0 else 1) := by
  unfold fX3_isFirstOf
  rw [loop_find (fun j => decide (zmk T (A.getD j 0) = some m)) (fun j => i32 (j : Int)) (.inr ()) (fun _ => .inl ()) t ?_ ?_ (show (0 : Int32) = _ from rfl), sb]
  · cases ef : (List.range t).find? (fun j => decide (zmk T (A.getD j 0) = some m)) with
    | none =>
      have h9 := find_none ef
      rw [if_neg (fun hc => ?_)]
      obtain ⟨j, hj, e⟩ := (zsk_mem ht).mp hc
      have := h9 j hj
      rw [decide_eq_false_iff_not] at this
      exact this e
    | some j =>
      obtain ⟨j1, j2, -⟩ := find_some ef
      rw [if_pos ((zsk_mem ht).mpr ⟨j, j1, of_decide_eq_true j2⟩)]
  · intro j hj
    have x2 := hb _ (getD_mem (d := 0) (show j < A.length by omega))
    have x3 := oI_b (o := zmk T (A.getD j 0)) (n := 40) (fun q hq => by have := zmk_lt hq; omega)
    unfold fLX3_isFirstOf_3
    rw [if_neg (by rw [le32 (by omega) (by omega) (by omega) (by omega)]; omega), hz_6 H, sb, hz_8 H, sb, q16, m32, a32, za_4 H (by omega) (by omega), sb, show ((k : Int) * 16 + (j : Int)).toNat = k * 16 + j by omega, hT.2 j (by omega), za_2 H (by omega) (by omega), sb, tn0, hM _ x2]
    by_cases c2 : zmk T (A.getD j 0) = some m
    · rw [if_pos (by rw [oI_eq.mpr c2]), if_pos (decide_eq_true c2)]
    · rw [if_neg (by rw [eq32 (by omega) (by omega) (by omega) (by omega)]; exact fun h9 => c2 (oI_eq.mp h9)), if_neg (by rw [decide_eq_true_eq]; exact c2), xlet_eq, q1, a32]; rfl
  · unfold fLX3_isFirstOf_3
    rw [if_pos (by rw [le32 (by omega) (by omega) (by omega) (by omega)]; omega)]
theorem c_zon (H : Hz d) {k ev rd : Nat} (hk : k < 40) (hT : Zt s d k A) (hA : A.length ≤ 16) (hev : ev ≤ 656) (hM : Zm s d T ev) (hb : ∀ i ∈ A, i < ev) (hTl : T.length ≤ k) (hr : ∀ m, m < T.length → s.1 (d + 8) m = i32 (zR T m : Int)) (hrb : ∀ m, m < T.length → zR T m ≤ 1000) (hrd : s.1 d 2 = i32 (rd : Int)) (hrd2 : rd ≤ 1000) :
    ∃ s', fX3_standOn (M h s) (h + d) (i32 (k : Int)) = some (M h s') ∧ Fz [8, 9] [2] d s s' ∧ (∀ m, m ≠ k → s'.1 (d + 8) m = s.1 (d + 8) m ∧ s'.1 (d + 9) m = s.1 (d + 9) m) ∧ s'.1 (d + 8) k = i32 (((zsn T A).2 + 1 : Nat) : Int) ∧ s'.1 (d + 9) k = i32 ((zsn T A).1.length : Int) ∧ s'.1 d 2 = i32 ((max rd ((zsn T A).2 + 1) : Nat) : Int) := by
  have hzb : ∀ t, (zsk T A t).2 ≤ 1000 := fun t => (zsn_b (T := T) (n := 1000) hrb (A.take t) ([], 0) (by decide)).1
  have key : ∃ y, iterP (fLX3_standOn_11 (h + d) (i32 (k : Int))) (0, 0, M h (mI s (d + 9) (upd (s.1 (d + 9)) k 0))) = some y ∧ ∃ s', y = (i32 ((zsn T A).2 : Int), M h s') ∧ Fz [9] [] d s s' ∧ (∀ m, m ≠ k → s'.1 (d + 9) m = s.1 (d + 9) m) ∧ s'.1 (d + 9) k = i32 ((zsn T A).1.length : Int) := by
    refine loop_ex (fun t x => ∃ s', x = (i32 ((zsk T A t).2 : Int), i32 (t : Int), M h s') ∧ Fz [9] [] d s s' ∧ (∀ m, m ≠ k → s'.1 (d + 9) m = s.1 (d + 9) m) ∧ s'.1 (d + 9) k = i32 ((zsk T A t).1.length : Int)) _ A.length (fun t x ht hx => ?_) (fun x hx => ?_) ⟨_, rfl, Fz.rf.mI (by decide) (by decide), fun m hm => by rw [mI_at, upd_ne hm], by rw [mI_at, upd_at]; rfl⟩
    · obtain ⟨s1, rfl, f1, f2, f3⟩ := hx
      have hT1 : Zt s1 d k A := hT.fz f1 (by decide) (by decide)
      have hM1 : Zm s1 d T ev := fun i hi => by rw [f1.2.1 2 (by decide) (by decide)]; exact hM i hi
      have x2 := hb _ (getD_mem (d := 0) ht)
      have x3 := oI_b (o := zmk T (A.getD t 0)) (n := 40) (fun q hq => by have := zmk_lt hq; omega)
      have hz := hzb t
      unfold fLX3_standOn_11
      simp only []
      rw [hz_9 H, sb, za_5 H (by omega) (by omega), sb, tn0, hT1.1, if_neg (by rw [le32 (by omega) (by omega) (by omega) (by omega)]; omega), hz_6 H, sb, hz_8 H, sb, q16, m32, a32, za_4 H (by omega) (by omega), sb, show ((k : Int) * 16 + (t : Int)).toNat = k * 16 + t by omega, hT1.2 t ht, za_2 H (by omega) (by omega), sb, tn0, hM1 _ x2]
      cases em : zmk T (A.getD t 0) with
      | none =>
        have e1 : zsk T A (t + 1) = zsk T A t := by rw [zsk_succ ht]; unfold zs1; rw [em]
        refine ⟨(i32 ((zsk T A (t + 1)).2 : Int), i32 ((t + 1 : Nat) : Int), M h s1), ?_, s1, rfl, f1, f2, by rw [e1]; exact f3⟩
        rw [if_pos (show i32 (oI none) = -1 from rfl), xlet_eq, q1, a32, e1]; rfl
      | some m =>
        have hm := zmk_lt em
        rw [if_neg (by rw [qm1]; unfold oI; simp only []; rw [eq32 (by omega) (by omega) (by omega) (by omega)]; omega), hz_o H, sb, show i32 (oI (some m)) = i32 (m : Int) from rfl, c_zfirst H hk hT1 hA hev hM1 hb (by omega) (by omega) (by omega), sb]
        by_cases c : m ∈ (zsk T A t).1
        · have e1 : zsk T A (t + 1) = zsk T A t := by
            rw [zsk_succ ht]; unfold zs1; rw [em]; simp only []; rw [if_pos c]
          refine ⟨(i32 ((zsk T A (t + 1)).2 : Int), i32 ((t + 1 : Nat) : Int), M h s1), ?_, s1, rfl, f1, f2, by rw [e1]; exact f3⟩
          rw [if_pos c, if_pos rfl, xlet_eq, q1, a32, e1]; rfl
        · have e1 : zsk T A (t + 1) = ((zsk T A t).1 ++ [m], max (zsk T A t).2 (zR T m)) := by
            rw [zsk_succ ht]; unfold zs1; rw [em]; simp only []; rw [if_neg c]
          have hrm := hrb m hm
          have e8 : (mI s1 (d + 9) (upd (s1.1 (d + 9)) k (i32 ((((zsk T A t).1.length : Nat) : Int) + 1)))).1 (d + 8) m = i32 (zR T m : Int) := by
            rw [mI_ne (by omega), f1.2.1 8 (by decide) (by decide)]; exact hr m hm
          refine ⟨(i32 ((zsk T A (t + 1)).2 : Int), i32 ((t + 1 : Nat) : Int), M h (mI s1 (d + 9) (upd (s1.1 (d + 9)) k (i32 ((((zsk T A t).1.length : Nat) : Int) + 1))))), ?_, _, rfl, f1.mI (by decide) (by decide), fun q hq => by rw [mI_at, upd_ne hq]; exact f2 q hq, ?_⟩
          · rw [if_neg c, if_neg (by decide), hz_13 H, sb, za_9 H (by omega) (by omega), sb, tn0, f3, q1, a32, zw_9 H (by omega) (by omega), sb, tn0, hz_12 H, sb, za_8 H (by omega) (by omega), sb, tn0, e8, xlet_eq, xlet_eq, a32, imax_of (by omega) (by omega), e1]; rfl
          · rw [mI_at, upd_at, e1, List.length_append]; rfl
    · obtain ⟨s1, rfl, f1, f2, f3⟩ := hx
      have hT1 : Zt s1 d k A := hT.fz f1 (by decide) (by decide)
      rw [zsk_all] at f3
      refine ⟨(i32 ((zsn T A).2 : Int), M h s1), ?_, s1, rfl, f1, f2, f3⟩
      unfold fLX3_standOn_11
      simp only []
      rw [hz_9 H, sb, za_5 H (by omega) (by omega), sb, tn0, hT1.1, if_pos (by rw [le32 (by omega) (by omega) (by omega) (by omega)]; omega), zsk_all]
  obtain ⟨y, e1, s1, rfl, f1, f2, f3⟩ := key
  have hz := hzb A.length
  rw [zsk_all] at hz
  have a2 : (mI s1 (d + 8) (upd (s1.1 (d + 8)) k (i32 ((zsn T A).2 : Int) + 1))).1 d 2 = i32 (rd : Int) := by
    rw [mI_ne (by omega), f1.2.2.2 2 (by decide)]; exact hrd
  have a3 : (mI s1 (d + 8) (upd (s1.1 (d + 8)) k (i32 ((zsn T A).2 : Int) + 1))).1 (d + 8) k = i32 (((zsn T A).2 + 1 : Nat) : Int) := by
    rw [mI_at, upd_at, q1, a32]; rfl
  have hfx : Fz [8, 9] [2] d s (mI s1 (d + 8) (upd (s1.1 (d + 8)) k (i32 ((zsn T A).2 : Int) + 1))) := (f1.mono (by decide) (by decide)).mI (by decide) (by decide)
  refine ⟨mI (mI s1 (d + 8) (upd (s1.1 (d + 8)) k (i32 ((zsn T A).2 : Int) + 1))) d (upd ((mI s1 (d + 8) (upd (s1.1 (d + 8)) k (i32 ((zsn T A).2 : Int) + 1))).1 d) 2 (i32 ((max rd ((zsn T A).2 + 1) : Nat) : Int))), ?_, hfx.fI (by decide), fun m hm => ?_, ?_, ?_, ?_⟩
  · unfold fX3_standOn
    rw [hz_13 H, sb, zw_9 H (by omega) (by omega), sb, tn0, e1, sb]
    simp only []
    rw [hz_12 H, sb, zw_8 H (by omega) (by omega), sb, tn0, hz_2 H, sb, a2, hz_12 H, sb, za_8 H (by omega) (by omega), sb, tn0, a3, imax_of (by omega) (by omega), hzw_2 H, sb]
  · rw [mI_ne (by omega), mI_at, upd_ne hm, mI_ne (by omega), mI_ne (by omega), f1.2.1 8 (by decide) (by decide)]
    exact ⟨rfl, f2 m hm⟩
  · rw [mI_ne (by omega)]; exact a3
  · rw [mI_ne (by omega), mI_ne (by omega)]; exact f3
  · rw [mI_at, upd_at]
/-- who took a letter as its first one -/
def Zk (s : Mm) (d : Nat) (T : List Ztp) (ev : Nat) : Prop := ∀ i, i < ev → (s.1 (d + 3) i = -1 ∧ ∀ k, k < T.length → (zA T k).getD 0 0 ≠ i) ∨ ∃ k, k < T.length ∧ s.1 (d + 3) i = i32 (k : Int) ∧ (zA T k).getD 0 0 = i
/-- the steps that are drawn -/
def Zs (s : Mm) (d : Nat) (T : List Ztp) : Prop := ∀ k, k < T.length → Zt s d k (zA T k) ∧ s.1 (d + 6) k = i32 (zM T k : Int) ∧ s.1 (d + 7) k = i32 (zF T k : Int) ∧ s.1 (d + 8) k = i32 (zR T k : Int) ∧ s.1 (d + 9) k = i32 (zN T k : Int)
def DC (s : Mm) (d : Nat) (D : Dst) : Prop := Zr s d D.1 ∧ s.1 d 5 = i32 (D.2.1 : Int) ∧ Zm s d D.2.2 D.2.1 ∧ Zk s d D.2.2 D.2.1 ∧ Zs s d D.2.2 ∧ s.1 d 2 = i32 (zrd D.2.2 : Int)
theorem c_zstep (H : Hz d) {S : Sys} (hS : WfS S) (hRS : RS s 3 S) (hd2 : ∀ s0 : Mm, gR (M h s0) (h + 2) 2 0 = some (h + 3)) {n0 : Nat} (hn0 : n0 ≤ 16) {D : Dst} (hI : ZI n0 D) (hC : DC s d D) {p r : Nat} (hr : r < nr S) (hp16 : p < 16) (hp : p + (rl S r).length ≤ D.1.length) (h16 : D.1.length ≤ 16) (h16b : D.1.length + (rr S r).length ≤ 16 + (rl S r).length) (hk : D.2.2.length < 40) : ∃ s', fX3_drawStep (M h s) (h + d) (i32 (D.2.2.length : Int)) (i32 (cod (p, r) : Int)) = some (M h s') ∧ Fz [1, 2, 3, 4, 5, 6, 7, 8, 9] [2, 4, 5] d s s' ∧ DC s' d (zd1 D p (rl S r).length (rr S r).length) := by
  obtain ⟨R, ev, T⟩ := D
  obtain ⟨i1, i2, i3, i4, i5, i6, i7, i8⟩ := id hI
  obtain ⟨c1, c2, c3, c4, c5, c6⟩ := hC
  simp only [] at i1 i2 i3 i4 i5 i6 i7 i8 hp h16 h16b hk c1 c2 c3 c4 c5 c6
  have h12 := hS.2.1
  have hwl := wl hS hr
  have hwr := wr hS hr
  have hl16 := hwl.1
  have hr16 := hwr.1
  have ha1 : 1 ≤ (rl S r).length := List.length_pos_iff.mpr (hS.2.2.1 r hr).2.2
  have hev : ev ≤ 640 := by omega
  have hcod : cod (p, r) = p * 16 + r := rfl
  have hw : fX8_whereOf (i32 (cod (p, r) : Int)) = some (i32 (p : Int)) := by
    unfold fX8_whereOf
    rw [show (4 : Int32) = i32 ((4 : Nat) : Int) from by decide, sar32 (by omega) (by decide), show (2 : Nat) ^ 4 = 16 from rfl, show cod (p, r) / 16 = p by omega]
  have hru : fX8_ruleOf (i32 (cod (p, r) : Int)) = some (i32 (r : Int)) := by
    unfold fX8_ruleOf
    rw [and15, show cod (p, r) % 16 = r by omega]
  have hAl : (ztk R p (rl S r).length).length = (rl S r).length := ztk_len hp
  have hp0 : p < R.length := by omega
  have hid := i4 _ (getD_mem (d := 0) hp0)
  -- s1 takes, s2 makes, s3 taker
  obtain ⟨s1, es1⟩ : ∃ s1, s1 = mI s (d + 5) (upd (s.1 (d + 5)) T.length (i32 ((rl S r).length : Int))) := ⟨_, rfl⟩
  have f1 : Fz [1, 2, 3, 4, 5, 6, 7, 8, 9] [2, 4, 5] d s s1 := by rw [es1]; exact Fz.rf.mI (by decide) (by decide)
  obtain ⟨s2, es2⟩ : ∃ s2, s2 = mI s1 (d + 6) (upd (s1.1 (d + 6)) T.length (i32 ((rr S r).length : Int))) := ⟨_, rfl⟩
  have f2 : Fz [1, 2, 3, 4, 5, 6, 7, 8, 9] [2, 4, 5] d s s2 := by rw [es2]; exact f1.mI (by decide) (by decide)
  obtain ⟨s3, es3⟩ : ∃ s3, s3 = mI s2 (d + 3) (upd (s2.1 (d + 3)) (R.getD p 0) (i32 (T.length : Int))) := ⟨_, rfl⟩
  have f3 : Fz [1, 2, 3, 4, 5, 6, 7, 8, 9] [2, 4, 5] d s s3 := by rw [es3]; exact f2.mI (by decide) (by decide)
  have hRS1 := hRS.fz H f1
  have g25 : s2.1 (d + 5) = upd (s.1 (d + 5)) T.length (i32 ((rl S r).length : Int)) := by rw [es2, mI_ne (by omega), es1, mI_at]
  have g26 : s2.1 (d + 6) = upd (s.1 (d + 6)) T.length (i32 ((rr S r).length : Int)) := by rw [es2, mI_at, es1, mI_ne (by omega)]
  have g23 : s2.1 (d + 3) = s.1 (d + 3) := by rw [es2, mI_ne (by omega), es1, mI_ne (by omega)]
  have g21 : s2.1 (d + 1) = s.1 (d + 1) := by rw [es2, mI_ne (by omega), es1, mI_ne (by omega)]
  have g3 : ∀ t, t ≠ 0 → t ≠ 3 → t ≠ 5 → t ≠ 6 → s3.1 (d + t) = s.1 (d + t) := fun t a b c e => by rw [es3, mI_ne (by omega), es2, mI_ne (by omega), es1, mI_ne (by omega)]
  have g30 : s3.1 d = s.1 d := by rw [es3, mI_ne (by omega), es2, mI_ne (by omega), es1, mI_ne (by omega)]
  have g33 : s3.1 (d + 3) = upd (s.1 (d + 3)) (R.getD p 0) (i32 (T.length : Int)) := by rw [es3, mI_at, g23]
  have g35 : s3.1 (d + 5) = upd (s.1 (d + 5)) T.length (i32 ((rl S r).length : Int)) := by rw [es3, mI_ne (by omega), g25]
  have g36 : s3.1 (d + 6) = upd (s.1 (d + 6)) T.length (i32 ((rr S r).length : Int)) := by rw [es3, mI_ne (by omega), g26]
  -- the letters that are taken
  have hloop : ∃ y, iterP (fLX3_drawStep_70 (h + d) (i32 (T.length : Int)) (i32 (p : Int))) (0, M h s3) = some y ∧ ∃ s', y = M h s' ∧ Fz [4] [] d s3 s' ∧ (∀ j, ¬ (T.length * 16 ≤ j ∧ j < T.length * 16 + 16) → s'.1 (d + 4) j = s3.1 (d + 4) j) ∧ (∀ j, j < (rl S r).length → s'.1 (d + 4) (T.length * 16 + j) = i32 ((R.getD (p + j) 0 : Nat) : Int)) := by
    refine loop_ex (fun t x => ∃ s', x = (i32 (t : Int), M h s') ∧ Fz [4] [] d s3 s' ∧ (∀ j, ¬ (T.length * 16 ≤ j ∧ j < T.length * 16 + 16) → s'.1 (d + 4) j = s3.1 (d + 4) j) ∧ (∀ j, j < t → s'.1 (d + 4) (T.length * 16 + j) = i32 ((R.getD (p + j) 0 : Nat) : Int))) _ (rl S r).length (fun t x ht hx => ?_) (fun x hx => ?_) ⟨s3, rfl, Fz.rf, fun j _ => rfl, fun j hj => absurd hj (by omega)⟩
    · obtain ⟨s4, rfl, k1, k2, k3⟩ := hx
      have r5 : s4.1 (d + 5) T.length = i32 ((rl S r).length : Int) := by rw [k1.2.1 5 (by decide) (by decide), g35, upd_at]
      have r1 : s4.1 (d + 1) (p + t) = i32 ((R.getD (p + t) 0 : Nat) : Int) := by rw [k1.2.1 1 (by decide) (by decide), g3 1 (by decide) (by decide) (by decide) (by decide)]; exact c1.2 _ (by omega)
      refine ⟨(i32 ((t + 1 : Nat) : Int), M h (mI s4 (d + 4) (upd (s4.1 (d + 4)) (T.length * 16 + t) (i32 ((R.getD (p + t) 0 : Nat) : Int))))), ?_, _, rfl, k1.mI (by decide) (by decide), fun j hj => ?_, fun j hj => ?_⟩
      · unfold fLX3_drawStep_70
        simp only []
        rw [hz_9 H, sb, za_5 H (by omega) (by omega), sb, tn0, r5, if_neg (by rw [le32 (by omega) (by omega) (by omega) (by omega)]; omega), hz_8 H, sb, hz_3 H, sb, a32, za_1 H (by omega) (by omega), sb, show ((p : Int) + (t : Int)).toNat = p + t by omega, r1, q16, m32, a32, zw_4 H (by omega) (by omega), sb, show ((T.length : Int) * 16 + (t : Int)).toNat = T.length * 16 + t by omega, xlet_eq, q1, a32]
        rfl
      · rw [mI_at, upd_ne (by omega)]; exact k2 j hj
      · rw [mI_at]
        by_cases c : j = t
        · subst c
          rw [upd_at]
        · rw [upd_ne (by omega)]; exact k3 j (by omega)
    · obtain ⟨s4, rfl, k1⟩ := hx
      have r5 : s4.1 (d + 5) T.length = i32 ((rl S r).length : Int) := by rw [k1.1.2.1 5 (by decide) (by decide), g35, upd_at]
      refine ⟨M h s4, ?_, s4, rfl, k1⟩
      unfold fLX3_drawStep_70
      simp only []
      rw [hz_9 H, sb, za_5 H (by omega) (by omega), sb, tn0, r5, if_pos (by rw [le32 (by omega) (by omega) (by omega) (by omega)]; omega)]
  obtain ⟨y, e4, s4, rfl, k1, k2, k3⟩ := hloop
  have f4 : Fz [1, 2, 3, 4, 5, 6, 7, 8, 9] [2, 4, 5] d s s4 := f3.tr (k1.mono (by decide) (by decide))
  have hT4 : Zt s4 d T.length (ztk R p (rl S r).length) := by
    refine ⟨by rw [k1.2.1 5 (by decide) (by decide), g35, upd_at, hAl], fun j hj => ?_⟩
    rw [hAl] at hj
    rw [k3 j hj, ztk_get hj]
  have hM4 : Zm s4 d T ev := fun i hi => by rw [k1.2.1 2 (by decide) (by decide), g3 2 (by decide) (by decide) (by decide) (by decide)]; exact c3 i hi
  obtain ⟨s5, e5, m1, m2, m3, m4, m5⟩ := c_zon (h := h) H (k := T.length) (ev := ev) (rd := zrd T) (T := T) hk hT4 (by omega) (by omega) hM4 (fun i hi => i4 i (ztk_sub hi)) (Nat.le_refl _) (fun m hm => by rw [k1.2.1 8 (by decide) (by decide), g3 8 (by decide) (by decide) (by decide) (by decide)]; exact (c5 m hm).2.2.2.1) (fun m hm => by have := (i7 m hm).2.2.2.1; omega) (by rw [k1.2.2.2 2 (by decide), g30]; exact c6) (by have := zrd_b (T := T) (n := 40) (fun k hk => by have := (i7 k hk).2.2.2.1; omega); omega)
  have f5 : Fz [1, 2, 3, 4, 5, 6, 7, 8, 9] [2, 4, 5] d s s5 := f4.tr (m1.mono (by decide) (by decide))
  obtain ⟨s6, es6⟩ : ∃ s6, s6 = mI s5 (d + 7) (upd (s5.1 (d + 7)) T.length (i32 (ev : Int))) := ⟨_, rfl⟩
  have f6 : Fz [1, 2, 3, 4, 5, 6, 7, 8, 9] [2, 4, 5] d s s6 := by rw [es6]; exact f5.mI (by decide) (by decide)
  have g4 : ∀ t, t ≠ 0 → t ≠ 4 → s4.1 (d + t) = s3.1 (d + t) := fun t a b => k1.2.1 t a (by simpa using b)
  have g5 : ∀ t, t ≠ 0 → t ≠ 8 → t ≠ 9 → s5.1 (d + t) = s4.1 (d + t) := fun t a b c => m1.2.1 t a (by simp [b, c])
  have g6 : ∀ t, t ≠ 0 → t ≠ 7 → s6.1 (d + t) = s5.1 (d + t) := fun t a b => by rw [es6, mI_ne (by omega)]
  have g67 : s6.1 (d + 7) = upd (s.1 (d + 7)) T.length (i32 (ev : Int)) := by rw [es6, mI_at, g5 7 (by decide) (by decide) (by decide), g4 7 (by decide) (by decide), g3 7 (by decide) (by decide) (by decide) (by decide)]
  have g65 : s6.1 d 5 = i32 (ev : Int) := by rw [es6, mI_ne (by omega), m1.2.2.2 5 (by decide), k1.2.2.2 5 (by decide), g30]; exact c2
  have g55 : s5.1 d 5 = i32 (ev : Int) := by rw [m1.2.2.2 5 (by decide), k1.2.2.2 5 (by decide), g30]; exact c2
  have g66 : s6.1 (d + 6) = upd (s.1 (d + 6)) T.length (i32 ((rr S r).length : Int)) := by rw [g6 6 (by decide) (by decide), g5 6 (by decide) (by decide) (by decide), g4 6 (by decide) (by decide), g36]
  obtain ⟨s7, e7, n1, n2, n3, n4⟩ := c_zadd (h := h) (s := s6) H (ev := ev) (n := (rr S r).length) (v := i32 (T.length : Int)) g65 (by omega)
  have f7 : Fz [1, 2, 3, 4, 5, 6, 7, 8, 9] [2, 4, 5] d s s7 := f6.tr (n1.mono (by decide) (by decide))
  have g7 : ∀ t, t ≠ 0 → t ≠ 2 → t ≠ 3 → s7.1 (d + t) = s6.1 (d + t) := fun t a b c => n1.2.1 t a (by simp [b, c])
  have hR7 : Zr s7 d R := by
    refine ⟨?_, fun j hj => ?_⟩
    · rw [n1.2.2.2 4 (by decide), es6, mI_ne (by omega), m1.2.2.2 4 (by decide), k1.2.2.2 4 (by decide), g30]; exact c1.1
    · rw [g7 1 (by decide) (by decide) (by decide), g6 1 (by decide) (by decide), g5 1 (by decide) (by decide) (by decide), g4 1 (by decide) (by decide), g3 1 (by decide) (by decide) (by decide) (by decide)]; exact c1.2 j hj
  have g75 : s7.1 (d + 5) = upd (s.1 (d + 5)) T.length (i32 ((rl S r).length : Int)) := by rw [g7 5 (by decide) (by decide) (by decide), g6 5 (by decide) (by decide), g5 5 (by decide) (by decide) (by decide), g4 5 (by decide) (by decide), g35]
  have g76 : s7.1 (d + 6) = upd (s.1 (d + 6)) T.length (i32 ((rr S r).length : Int)) := by rw [g7 6 (by decide) (by decide) (by decide), g66]
  have g77 : s7.1 (d + 7) = upd (s.1 (d + 7)) T.length (i32 (ev : Int)) := by rw [g7 7 (by decide) (by decide) (by decide), g67]
  obtain ⟨s8, e8, o1, o2⟩ := c_zrep (h := h) (s := s7) H (R := R) (p := p) (k := T.length) (a := (rl S r).length) (b := (rr S r).length) (f := ev) hk hR7 (by rw [g75, upd_at]) (by rw [g76, upd_at]) (by rw [g77, upd_at]) hp (by omega) (by omega) (by omega)
  have f8 : Fz [1, 2, 3, 4, 5, 6, 7, 8, 9] [2, 4, 5] d s s8 := f7.tr (o1.mono (by decide) (by decide))
  have g8 : ∀ t, t ≠ 0 → t ≠ 1 → s8.1 (d + t) = s7.1 (d + t) := fun t a b => o1.2.1 t a (by simpa using b)
  have hold : ∀ k, k < T.length → zst (T ++ [znw (R, ev, T) p (rl S r).length (rr S r).length]) k = zst T k := fun k hk => zst_app1 hk
  have hnew : zst (T ++ [znw (R, ev, T) p (rl S r).length (rr S r).length]) T.length = znw (R, ev, T) p (rl S r).length (rr S r).length := zst_app2
  have hTl : (T ++ [znw (R, ev, T) p (rl S r).length (rr S r).length]).length = T.length + 1 := by rw [List.length_append]; rfl
  have hAn : zA (T ++ [znw (R, ev, T) p (rl S r).length (rr S r).length]) T.length = ztk R p (rl S r).length := by unfold zA; rw [hnew]; rfl
  refine ⟨s8, ?_, f8, o2, ?_, ?_, ?_, ?_, ?_⟩
  · unfold fX3_drawStep
    have w1 : sI (M h s) (h + (d + 5)) (i32 (T.length : Int)) (i32 ((rl S r).length : Int)) = some (M h s1) := by rw [zw_5 H (by omega) (by omega), tn0, es1]
    have w2 : sI (M h s1) (h + (d + 6)) (i32 (T.length : Int)) (i32 ((rr S r).length : Int)) = some (M h s2) := by rw [zw_6 H (by omega) (by omega), tn0, es2]
    have w3 : sI (M h s2) (h + (d + 3)) (i32 ((R.getD p 0 : Nat) : Int)) (i32 (T.length : Int)) = some (M h s3) := by rw [zw_3 H (by omega) (by omega), tn0, es3]
    have r1 : aI (M h s2) (h + (d + 1)) 0 (i32 (p : Int)) = some (i32 ((R.getD p 0 : Nat) : Int)) := by rw [za_1 H (by omega) (by omega), tn0, g21, c1.2 p hp0]
    have w6 : sI (M h s5) (h + (d + 7)) (i32 (T.length : Int)) (i32 (ev : Int)) = some (M h s6) := by rw [zw_7 H (by omega) (by omega), tn0, es6]
    have r6 : aI (M h s6) (h + (d + 6)) 0 (i32 (T.length : Int)) = some (i32 ((rr S r).length : Int)) := by rw [za_6 H (by omega) (by omega), tn0, g66, upd_at]
    rw [hw, sb, hru, sb, hz_9 H, sb, hz_0 H, sb, hd2, sb, g_3_2, sb, rdl hS hRS hr, sb, c_len hwl, sb, w1, sb, hz_10 H, sb, hz_0 H, sb, hd2, sb, g_3_3, sb, rdr hS hRS1 hr, sb, c_len hwr, sb, w2, sb, hz_7 H, sb, hz_3 H, sb, r1, sb, w3, sb, e4, sb, hz_o H, sb, e5, sb, hz_11 H, sb, hz_5 H, sb, g55, w6, sb, hz_10 H, sb, r6, sb, hz_o H, sb, e7, sb, hz_o H, sb, e8, sb]
  · show s8.1 d 5 = i32 ((ev + (rr S r).length : Nat) : Int)
    rw [o1.2.2.2 5 (by decide)]; exact n2
  · intro i hi
    have hi : i < ev + (rr S r).length := hi
    show s8.1 (d + 2) i = i32 (oI (zmk (T ++ [znw (R, ev, T) p (rl S r).length (rr S r).length]) i))
    rw [g8 2 (by decide) (by decide), zmk_app (T := T) (x := znw (R, ev, T) p (rl S r).length (rr S r).length) (e := ev) (b := (rr S r).length) rfl rfl (fun k hk => (i7 k hk).1) i]
    by_cases c : i < ev
    · rw [if_neg (by omega), (n3 i c).1, g6 2 (by decide) (by decide), g5 2 (by decide) (by decide) (by decide)]; exact hM4 i c
    · rw [if_pos (by omega), (n4 i (by omega) hi).1]; rfl
  · intro i hi
    have hi : i < ev + (rr S r).length := hi
    show (s8.1 (d + 3) i = -1 ∧ ∀ k, k < (T ++ [znw (R, ev, T) p (rl S r).length (rr S r).length]).length → (zA (T ++ [znw (R, ev, T) p (rl S r).length (rr S r).length]) k).getD 0 0 ≠ i) ∨ ∃ k, k < (T ++ [znw (R, ev, T) p (rl S r).length (rr S r).length]).length ∧ s8.1 (d + 3) i = i32 (k : Int) ∧ (zA (T ++ [znw (R, ev, T) p (rl S r).length (rr S r).length]) k).getD 0 0 = i
    rw [hTl, g8 3 (by decide) (by decide)]
    have hhd : (ztk R p (rl S r).length).getD 0 0 = R.getD p 0 := by rw [ztk_get (by omega), Nat.add_zero]
    by_cases c : i < ev
    · rw [(n3 i c).2, g6 3 (by decide) (by decide), g5 3 (by decide) (by decide) (by decide), g4 3 (by decide) (by decide), g33]
      by_cases c9 : i = R.getD p 0
      · subst c9
        refine Or.inr ⟨T.length, by omega, by rw [upd_at], ?_⟩
        rw [hAn, hhd]
      · rw [upd_ne c9]
        rcases c4 i c with ⟨q1', q2'⟩ | ⟨k, q1', q2', q3'⟩
        · refine Or.inl ⟨q1', fun k hk => ?_⟩
          by_cases ck : k = T.length
          · subst ck
            rw [hAn, hhd]; exact fun h9 => c9 h9.symm
          · rw [zA_of (hold k (by omega))]; exact q2' k (by omega)
        · refine Or.inr ⟨k, by omega, q2', ?_⟩
          rw [zA_of (hold k q1')]; exact q3'
    · rw [(n4 i (by omega) hi).2]
      refine Or.inl ⟨rfl, fun k hk => ?_⟩
      by_cases ck : k = T.length
      · subst ck
        rw [hAn, hhd]; omega
      · rw [zA_of (hold k (by omega))]
        have hne := (i5 k (by omega)).1
        have := ((i5 k (by omega)).2 _ (getD_mem (d := 0) (List.length_pos_iff.mpr hne))).1
        omega
  · intro k hk
    have hk : k < (T ++ [znw (R, ev, T) p (rl S r).length (rr S r).length]).length := hk
    rw [hTl] at hk
    show Zt s8 d k (zA (T ++ [znw (R, ev, T) p (rl S r).length (rr S r).length]) k) ∧ s8.1 (d + 6) k = i32 (zM (T ++ [znw (R, ev, T) p (rl S r).length (rr S r).length]) k : Int) ∧ s8.1 (d + 7) k = i32 (zF (T ++ [znw (R, ev, T) p (rl S r).length (rr S r).length]) k : Int) ∧ s8.1 (d + 8) k = i32 (zR (T ++ [znw (R, ev, T) p (rl S r).length (rr S r).length]) k : Int) ∧ s8.1 (d + 9) k = i32 (zN (T ++ [znw (R, ev, T) p (rl S r).length (rr S r).length]) k : Int)
    have q5 : s8.1 (d + 5) = upd (s.1 (d + 5)) T.length (i32 ((rl S r).length : Int)) := by rw [g8 5 (by decide) (by decide), g75]
    have q6 : s8.1 (d + 6) = upd (s.1 (d + 6)) T.length (i32 ((rr S r).length : Int)) := by rw [g8 6 (by decide) (by decide), g76]
    have q7 : s8.1 (d + 7) = upd (s.1 (d + 7)) T.length (i32 (ev : Int)) := by rw [g8 7 (by decide) (by decide), g77]
    have q4 : s8.1 (d + 4) = s4.1 (d + 4) := by rw [g8 4 (by decide) (by decide), g7 4 (by decide) (by decide) (by decide), g6 4 (by decide) (by decide), g5 4 (by decide) (by decide) (by decide)]
    have q8 : s8.1 (d + 8) = s5.1 (d + 8) := by rw [g8 8 (by decide) (by decide), g7 8 (by decide) (by decide) (by decide), g6 8 (by decide) (by decide)]
    have q9 : s8.1 (d + 9) = s5.1 (d + 9) := by rw [g8 9 (by decide) (by decide), g7 9 (by decide) (by decide) (by decide), g6 9 (by decide) (by decide)]
    by_cases ck : k = T.length
    · subst ck
      rw [hAn]
      unfold zM zF zR zN
      rw [hnew, q6, q7, q8, q9, upd_at, upd_at, m3, m4]
      refine ⟨⟨by rw [q5, upd_at, hAl], fun j hj => by rw [q4]; exact hT4.2 j hj⟩, rfl, rfl, rfl, rfl⟩
    · obtain ⟨v1, v2, v3, v4, v5⟩ := c5 k (by omega)
      rw [zA_of (hold k (by omega))]
      unfold zM zF zR zN
      rw [hold k (by omega), q6, q7, q8, q9, upd_ne ck, upd_ne ck, (m2 k ck).1, (m2 k ck).2, g4 8 (by decide) (by decide), g4 9 (by decide) (by decide), g3 8 (by decide) (by decide) (by decide) (by decide), g3 9 (by decide) (by decide) (by decide) (by decide)]
      refine ⟨⟨by rw [q5, upd_ne ck]; exact v1.1, fun j hj => ?_⟩, v2, v3, v4, v5⟩
      have := (i7 k (by omega)).2.1
      rw [q4, k2 _ (by omega), g3 4 (by decide) (by decide) (by decide) (by decide)]
      exact v1.2 j hj
  · show s8.1 d 2 = i32 (zrd (T ++ [znw (R, ev, T) p (rl S r).length (rr S r).length]) : Int)
    rw [zrd_app, o1.2.2.2 2 (by decide), n1.2.2.2 2 (by decide), es6, mI_ne (by omega), m5]; rfl
end ZC
