/-! DERIVATIONS; DRAWINGS in the class: the canon, the whole -/
def dvW (S : Sys) (t : List Nat) (c : List (Nat × Nat)) : List Nat := c.foldl (aft S) t
def dvOk (S : Sys) (t : List Nat) (c : List (Nat × Nat)) : Prop := Wk S.1 t ∧ ∀ k, k < c.length → okS S (dvW S t (c.take k)) (c.getD k (0, 0))
theorem take_snoc {c : List (Nat × Nat)} {k : Nat} (hk : k < c.length) : c.take (k + 1) = c.take k ++ [c.getD k (0, 0)] := by
  rw [List.take_succ_eq_append_getElem hk, List.getD_eq_getElem?_getD, List.getElem?_eq_getElem hk]; rfl
theorem dvW_succ {S : Sys} {t : List Nat} {c : List (Nat × Nat)} {k : Nat} (hk : k < c.length) : dvW S t (c.take (k + 1)) = aft S (dvW S t (c.take k)) (c.getD k (0, 0)) := by
  unfold dvW
  rw [take_snoc hk, List.foldl_append]; rfl
theorem dvW_Wk {S : Sys} (hS : WfS S) {t : List Nat} {c : List (Nat × Nat)} (hD : dvOk S t c) : ∀ k, k ≤ c.length → Wk S.1 (dvW S t (c.take k)) := by
  intro k
  induction k with
  | zero => intro _; exact hD.1
  | succ k ih =>
    intro hk
    rw [dvW_succ (by omega)]
    exact aft_Wk hS (ih (by omega)) (hD.2 k (by omega))
theorem dvW_all {S : Sys} (hS : WfS S) {t : List Nat} {c : List (Nat × Nat)} (hD : dvOk S t c) : Wk S.1 (dvW S t c) := by
  have := dvW_Wk hS hD c.length (Nat.le_refl _)
  rw [List.take_length] at this
  exact this
theorem zd_succ {S : Sys} {t : List Nat} {c : List (Nat × Nat)} {k : Nat} (hk : k < c.length) : zd S t (c.take (k + 1)) = zd1 (zd S t (c.take k)) (c.getD k (0, 0)).1 (rl S (c.getD k (0, 0)).2).length (rr S (c.getD k (0, 0)).2).length := by
  unfold zd
  rw [take_snoc hk, List.foldl_append]; rfl
theorem zd_ok {S : Sys} (hS : WfS S) {t : List Nat} {c : List (Nat × Nat)} (hD : dvOk S t c) : ∀ k, k ≤ c.length → ZI t.length (zd S t (c.take k)) ∧ (zd S t (c.take k)).1.length = (dvW S t (c.take k)).length ∧ (zd S t (c.take k)).2.2.length = k := by
  intro k
  induction k with
  | zero =>
    intro _
    refine ⟨ZI.init t.length, ?_, rfl⟩
    show (List.range t.length).length = t.length
    rw [List.length_range]
  | succ k ih =>
    intro hk
    obtain ⟨h1, h2, h3⟩ := ih (by omega)
    obtain ⟨o1, o2, o3⟩ := hD.2 k (by omega)
    have hle := fit_le o3 (by omega)
    have hl := (wl hS o2).1
    have hr := (wr hS o2).1
    have ha1 : 1 ≤ (rl S (c.getD k (0, 0)).2).length := List.length_pos_iff.mpr (hS.2.2.1 _ o2).2.2
    rw [zd_succ (by omega), dvW_succ (by omega)]
    refine ⟨h1.step ha1 hl hr (by omega), ?_, ?_⟩
    · show (zrp _ _ _ _).length = _
      rw [zrp_len (by omega), h2]
      unfold aft
      rw [repl_len o3 (by omega)]
      omega
    · show (_ ++ [_] : List Ztp).length = _
      rw [List.length_append, h3]; rfl
section ZD
variable {h d : Nat} {s : Mm}
/-- the class's cells of a place: told, steps -/
def Pq (s : Mm) (q : Nat) (t : List Nat) (c : List (Nat × Nat)) : Prop := s.2 9 q = i64 (cw t : Int) ∧ s.1 11 q = i32 (c.length : Int) ∧ (∀ k, k < c.length → s.1 12 (q * 40 + k) = i32 (cod (c.getD k (0, 0)) : Int)) ∧ c.length ≤ 40
theorem Pq.fz {C I : List Nat} {s' : Mm} {q : Nat} {t : List Nat} {c : List (Nat × Nat)} (hP : Pq s q t c) (H : Hz d) (h1 : Fz C I d s s') : Pq s' q t c := by
  have := H.2.1
  unfold Pq
  rw [h1.1, h1.2.2.1 11 (by omega), h1.2.2.1 12 (by omega)]
  exact hP
theorem c_codeAt {q k : Nat} {t : List Nat} {c : List (Nat × Nat)} (hq : q < 6) (hP : Pq s q t c) (hk : k < c.length) : fX2_codeAt (M h s) (h + 2) (i32 (q : Int)) (i32 (k : Int)) = some (i32 (cod (c.getD k (0, 0)) : Int)) := by
  have := hP.2.2.2
  unfold fX2_codeAt
  rw [g_2_4, sb, q40, m32, a32, a_12 (by omega) (by omega), show ((q : Int) * 40 + (k : Int)).toNat = q * 40 + k by omega, hP.2.2.1 k hk]
  rfl
theorem c_ztold (H : Hz d) {n : Nat} (hn : n ≤ 16) : ∃ s', fX3_layTold (M h s) (h + d) (i32 (n : Int)) = some (M h s') ∧ Fz [1] [4] d s s' ∧ Zr s' d (List.range n) := by
  have key : ∃ y, iterP (fLX3_layTold_7 (h + d) (i32 (n : Int))) (0, M h (mI s d (upd (s.1 d) 4 (i32 (n : Int))))) = some y ∧ ∃ s', y = M h s' ∧ Fz [1] [4] d s s' ∧ Zr s' d (List.range n) := by
    refine loop_ex (fun m x => ∃ s', x = (i32 (m : Int), M h s') ∧ Fz [1] [4] d s s' ∧ s'.1 d 4 = i32 (n : Int) ∧ ∀ j, j < m → s'.1 (d + 1) j = i32 (j : Int)) _ n (fun m x hm hx => ?_) (fun x hx => ?_) ⟨_, rfl, Fz.rf.fI (by decide), by rw [mI_at, upd_at], fun j hj => absurd hj (by omega)⟩
    · obtain ⟨s1, rfl, f1, f2, f3⟩ := hx
      refine ⟨(i32 ((m + 1 : Nat) : Int), M h (mI s1 (d + 1) (upd (s1.1 (d + 1)) m (i32 (m : Int))))), ?_, _, rfl, f1.mI (by decide) (by decide), by rw [mI_ne (by omega)]; exact f2, fun j hj => ?_⟩
      · unfold fLX3_layTold_7
        simp only []
        rw [if_neg (by rw [le32 (by omega) (by omega) (by omega) (by omega)]; omega), hz_3 H, sb, zw_1 H (by omega) (by omega), sb, tn0, xlet_eq, q1, a32]; rfl
      · rw [mI_at]
        by_cases c : j = m
        · subst c
          rw [upd_at]
        · rw [upd_ne c]; exact f3 j (by omega)
    · obtain ⟨s1, rfl, f1, f2, f3⟩ := hx
      refine ⟨M h s1, ?_, s1, rfl, f1, by rw [List.length_range]; exact f2, fun j hj => ?_⟩
      · unfold fLX3_layTold_7
        rw [if_pos (by rw [le32 (by omega) (by omega) (by omega) (by omega)]; omega)]
      · rw [List.length_range] at hj
        rw [f3 j hj, List.getD_eq_getElem?_getD, List.getElem?_range hj]; rfl
  obtain ⟨y, e1, s', rfl, f1⟩ := key
  refine ⟨s', ?_, f1⟩
  unfold fX3_layTold
  rw [hzw_4 H, sb, e1, sb]
/-- what the canon leaves -/
def ZO (s : Mm) (d : Nat) (c : List (Nat × Nat)) (out : List (Nat × Nat)) : Prop := ∀ j, j < out.length → s.1 (d + 11) j = i32 ((out.getD j (0, 0)).1 : Int) ∧ s.1 (d + 12) j = i32 ((c.getD (out.getD j (0, 0)).2 (0, 0)).2 : Int) ∧ s.1 (d + 10) (out.getD j (0, 0)).2 = i32 (j : Int)
theorem c_zmost (H : Hz d) {S : Sys} (hS : WfS S) {q n0 : Nat} (hq : q < 6) {t : List Nat} {c : List (Nat × Nat)} (hP : Pq s q t c) (hc : ∀ k, k < c.length → (c.getD k (0, 0)).1 < 16 ∧ (c.getD k (0, 0)).2 < 12) {D : Dst} (hn0 : n0 ≤ 16) (hI : ZI n0 D) (hl : D.2.2.length = c.length) (hZk : Zk s d D.2.2 D.2.1) (hZs : Zs s d D.2.2) {L : List Nat} {x : List Nat × List (Nat × Nat)} (hC : CI D.2.2 D.2.1 L x) (hL : L ≠ []) (hR : Zr s d x.1) (hO : ZO s d c x.2) :
    ∃ s', fX3_makeLeftmost (M h s) (h + d) (i32 (q : Int)) (i32 (x.2.length : Int)) = some (M h s') ∧ Fz [1, 10, 11, 12] [4] d s s' ∧ Zr s' d (zc1 D.2.2 x).1 ∧ ZO s' d c (zc1 D.2.2 x).2 := by
  obtain ⟨R0, ev, T⟩ := D
  obtain ⟨i1, i2, i3, i4, i5, i6, i7, i8⟩ := id hI
  simp only [] at i1 i2 i3 i4 i5 i6 i7 i8 hl hZk hZs hC
  have h40 := hP.2.2.2
  have hne : ∀ k, k < T.length → zA T k ≠ [] := fun k hk => (i5 k hk).1
  have hev : ev ≤ 656 := by omega
  have hlen := hC.len
  have hxb : ∀ i ∈ x.1, i < ev := fun i hi => hC.2.2.1 i (List.mem_append_left _ hi)
  obtain ⟨p, k, L', z1, z2, z3, z4, z5, z6, z7, z8, z9, z10⟩ := hC.step hne hL
  have hx9 : x.2.length < T.length := by
    have := hC.2.2.2.2.2.2.2
    have : 0 < L.length := List.length_pos_iff.mpr hL
    omega
  have hlk : ∀ p', p' < x.1.length → ∀ k', k' < T.length → x.1.getD p' 0 ∈ zA T k' → zlk T x.1 p' = if zli T x.1 p' k' then some k' else none := by
    intro p' hp' k' hk' hm
    by_cases c9 : zli T x.1 p' k'
    · rw [if_pos c9]
      cases el : zlk T x.1 p' with
      | none =>
        have := find_none el k' hk'
        rw [decide_eq_false_iff_not] at this
        exact absurd c9 this
      | some k2 =>
        obtain ⟨a1, a2, -⟩ := find_some el
        rw [zli_u hne i6 hk' a1 hm (of_decide_eq_true a2)]
    · rw [if_neg c9]
      cases el : zlk T x.1 p' with
      | none => rfl
      | some k2 =>
        obtain ⟨a1, a2, -⟩ := find_some el
        have := zli_u hne i6 hk' a1 hm (of_decide_eq_true a2)
        subst this
        exact absurd (of_decide_eq_true a2) c9
  have hloop : iterP (fLX3_makeLeftmost_2 (M h s) (h + d) (i32 (q : Int)) (i32 (x.2.length : Int))) 0 = some (.inl (i32 (p : Int), i32 (k : Int))) := by
    have := loop_find (F := fLX3_makeLeftmost_2 (M h s) (h + d) (i32 (q : Int)) (i32 (x.2.length : Int))) (fun p' => (zlk T x.1 p').isSome) (fun p' => i32 (p' : Int)) (.inr ()) (fun p' => .inl (i32 (p' : Int), i32 (((zlk T x.1 p').getD 0 : Nat) : Int))) x.1.length ?_ ?_ (show (0 : Int32) = _ from rfl)
    · have ez : (List.range x.1.length).find? (fun p' => (zlk T x.1 p').isSome) = some p := z1
      rw [this, ez]
      simp only []
      rw [z2]; rfl
    · intro p' hp'
      have x1 := hxb _ (getD_mem (d := 0) hp')
      unfold fLX3_makeLeftmost_2
      rw [hz_4 H, sb, hR.1, if_neg (by rw [le32 (by omega) (by omega) (by omega) (by omega)]; omega), hz_7 H, sb, hz_3 H, sb, za_1 H (by omega) (by omega), sb, tn0, hR.2 p' hp', za_3 H (by omega) (by omega), sb, tn0]
      rcases hZk _ x1 with ⟨a1, a2⟩ | ⟨k', a1, a2, a3⟩
      · have en : zlk T x.1 p' = none := by
          cases el : zlk T x.1 p' with
          | none => rfl
          | some k2 =>
            obtain ⟨b1, b2, -⟩ := find_some el
            exact absurd (zli_hd (hne k2 b1) (of_decide_eq_true b2)).2 (a2 k2 b1)
        rw [a1, if_pos rfl, en, if_neg (by decide), xlet_eq, q1, a32]; rfl
      · have hm : x.1.getD p' 0 ∈ zA T k' := by rw [← a3]; exact getD_mem (List.length_pos_iff.mpr (hne k' a1))
        obtain ⟨v1, v2, v3, v4, v5⟩ := hZs k' a1
        rw [a2, if_neg (by rw [qm1]; rw [eq32 (by omega) (by omega) (by omega) (by omega)]; omega), hz_o H, sb, c_zlies H (by omega) hR v1 (i7 k' a1).2.1 hp' (by omega) (fun i hi => by have := hxb i hi; omega) (fun i hi => by have := ((i5 k' a1).2 i hi).1; omega), sb, hlk p' hp' k' a1 hm]
        by_cases c9 : zli T x.1 p' k'
        · rw [if_pos c9, if_neg (by decide), if_pos c9, if_pos (by rfl)]; rfl
        · rw [if_neg c9, if_pos rfl, if_neg c9, if_neg (by decide), xlet_eq, q1, a32]; rfl
    · unfold fLX3_makeLeftmost_2
      rw [hz_4 H, sb, hR.1, if_pos (by rw [le32 (by omega) (by omega) (by omega) (by omega)]; omega)]
  obtain ⟨c1', c2'⟩ := hc k (by omega)
  obtain ⟨v1, v2, v3, v4, v5⟩ := hZs k z4
  obtain ⟨s1, es1⟩ : ∃ s1, s1 = mI s (d + 10) (upd (s.1 (d + 10)) k (i32 (x.2.length : Int))) := ⟨_, rfl⟩
  obtain ⟨s2, es2⟩ : ∃ s2, s2 = mI s1 (d + 11) (upd (s1.1 (d + 11)) x.2.length (i32 (p : Int))) := ⟨_, rfl⟩
  obtain ⟨s3, es3⟩ : ∃ s3, s3 = mI s2 (d + 12) (upd (s2.1 (d + 12)) x.2.length (i32 ((c.getD k (0, 0)).2 : Int))) := ⟨_, rfl⟩
  have f1 : Fz [1, 10, 11, 12] [4] d s s1 := by rw [es1]; exact Fz.rf.mI (by decide) (by decide)
  have f2 : Fz [1, 10, 11, 12] [4] d s s2 := by rw [es2]; exact f1.mI (by decide) (by decide)
  have f3 : Fz [1, 10, 11, 12] [4] d s s3 := by rw [es3]; exact f2.mI (by decide) (by decide)
  have g3 : ∀ t, t ≠ 10 → t ≠ 11 → t ≠ 12 → s3.1 (d + t) = s.1 (d + t) := fun t a b c => by rw [es3, mI_ne (by omega), es2, mI_ne (by omega), es1, mI_ne (by omega)]
  have hR3 : Zr s3 d x.1 := by
    refine ⟨?_, fun j hj => ?_⟩
    · have := g3 0 (by decide) (by decide) (by decide)
      rw [Nat.add_zero] at this
      rw [this]; exact hR.1
    · rw [g3 1 (by decide) (by decide) (by decide)]; exact hR.2 j hj
  have hN2 : (zc1 T x).1.length ≤ 656 := by have := z9.len; omega
  rw [z8] at hN2
  have hzl : (zrp x.1 p (zA T k).length (zB T k)).length = p + zM T k + (x.1.length - p - (zA T k).length) := zrp_len z6
  simp only [] at hN2
  have hFk := (i7 k z4).1
  obtain ⟨s4, e4, o1, o2⟩ := c_zrep (h := h) (s := s3) H (R := x.1) (p := p) (k := k) (a := (zA T k).length) (b := zM T k) (f := zF T k) (by omega) hR3 (by rw [g3 5 (by decide) (by decide) (by decide)]; exact v1.1) (by rw [g3 6 (by decide) (by decide) (by decide)]; exact v2) (by rw [g3 7 (by decide) (by decide) (by decide)]; exact v3) z6 (by omega) (by omega) (by omega)
  have f4 : Fz [1, 10, 11, 12] [4] d s s4 := f3.tr (o1.mono (by decide) (by decide))
  have hP2 : Pq s2 q t c := hP.fz H f2
  refine ⟨s4, ?_, f4, ?_, ?_⟩
  · unfold fX3_makeLeftmost
    have w1 : sI (M h s) (h + (d + 10)) (i32 (k : Int)) (i32 (x.2.length : Int)) = some (M h s1) := by rw [zw_10 H (by omega) (by omega), tn0, es1]
    have w2 : sI (M h s1) (h + (d + 11)) (i32 (x.2.length : Int)) (i32 (p : Int)) = some (M h s2) := by rw [zw_11 H (by omega) (by omega), tn0, es2]
    have w3 : sI (M h s2) (h + (d + 12)) (i32 (x.2.length : Int)) (i32 ((c.getD k (0, 0)).2 : Int)) = some (M h s3) := by rw [zw_12 H (by omega) (by omega), tn0, es3]
    have hru : fX8_ruleOf (i32 (cod (c.getD k (0, 0)) : Int)) = some (i32 ((c.getD k (0, 0)).2 : Int)) := by
      unfold fX8_ruleOf
      rw [and15, show cod (c.getD k (0, 0)) % 16 = (c.getD k (0, 0)).2 by unfold cod; omega]
    rw [hloop, sb]
    simp only []
    rw [hz_14 H, sb, w1, sb, hz_15 H, sb, w2, sb, hz_16 H, sb, hz_0 H, sb, o_2, sb, c_codeAt hq hP2 (by omega), sb, hru, sb, w3, sb, hz_o H, sb, e4, sb]
  · rw [z8]; exact o2
  · rw [z8]
    intro j hj
    have hj : j < (x.2 ++ [(p, k)]).length := hj
    rw [List.length_append, show [(p, k)].length = 1 from rfl] at hj
    have q1' : s4.1 (d + 11) = upd (s.1 (d + 11)) x.2.length (i32 (p : Int)) := by rw [o1.2.1 11 (by decide) (by decide), es3, mI_ne (by omega), es2, mI_at, es1, mI_ne (by omega)]
    have q2' : s4.1 (d + 12) = upd (s.1 (d + 12)) x.2.length (i32 ((c.getD k (0, 0)).2 : Int)) := by rw [o1.2.1 12 (by decide) (by decide), es3, mI_at, es2, mI_ne (by omega), es1, mI_ne (by omega)]
    have q3' : s4.1 (d + 10) = upd (s.1 (d + 10)) k (i32 (x.2.length : Int)) := by rw [o1.2.1 10 (by decide) (by decide), es3, mI_ne (by omega), es2, mI_ne (by omega), es1, mI_at]
    simp only []
    rw [q1', q2', q3']
    by_cases cj : j = x.2.length
    · subst cj
      rw [getD_app2, upd_at, upd_at, upd_at]
      exact ⟨rfl, rfl, rfl⟩
    · have hj2 : j < x.2.length := by omega
      rw [getD_app1 hj2, upd_ne cj, upd_ne cj, upd_ne (z7 _ (getD_mem hj2))]
      exact hO j hj2
theorem c_draw (H : Hz d) {S : Sys} (hS : WfS S) (hRS : RS s 3 S) {q : Nat} (hq : q < 6) {t : List Nat} {c : List (Nat × Nat)} (hP : Pq s q t c) (hD : dvOk S t c) : ∃ s', fX3_draw (M h s) (h + d) (i32 (q : Int)) = some (M h s') ∧ Fr d (d + 12) s s' ∧ s'.1 d 1 = i32 (c.length : Int) ∧ s'.1 d 2 = i32 (zrd (zd S t c).2.2 : Int) ∧ Zs s' d (zd S t c).2.2 ∧ ZO s' d c (zcs (zd S t c).2.2 (List.range t.length) c.length).2 := by
  have h40 := hP.2.2.2
  have hdd := H.2.1
  have hWt := hD.1.ww hS.1.2
  have ht16 := hWt.1
  obtain ⟨s1, es1⟩ : ∃ s1, s1 = mI (mI s d (upd (s.1 d) 1 (i32 (c.length : Int)))) d (upd ((mI s d (upd (s.1 d) 1 (i32 (c.length : Int)))).1 d) 2 0) := ⟨_, rfl⟩
  have f1 : Fz [1, 2, 3, 4, 5, 6, 7, 8, 9, 10, 11, 12] [1, 2, 4, 5] d s s1 := by rw [es1]; exact (Fz.rf.fI (by decide)).fI (by decide)
  have a11 : s1.1 d 1 = i32 (c.length : Int) := by rw [es1, mI_at, upd_ne (by decide), mI_at, upd_at]
  have a12 : s1.1 d 2 = 0 := by rw [es1, mI_at, upd_at]
  obtain ⟨s2, e2, b1, b2⟩ := c_ztold (h := h) (s := s1) H (n := t.length) ht16
  obtain ⟨s3, es3⟩ : ∃ s3, s3 = mI s2 d (upd (s2.1 d) 5 0) := ⟨_, rfl⟩
  have b3 : Fz [] [5] d s2 s3 := by rw [es3]; exact Fz.rf.fI (by decide)
  obtain ⟨s4, e4, d1, d2, d3, d4⟩ := c_zadd (h := h) (s := s3) H (ev := 0) (n := t.length) (v := -1) (by rw [es3, mI_at, upd_at]; rfl) (by omega)
  have f4 : Fz [1, 2, 3, 4, 5, 6, 7, 8, 9, 10, 11, 12] [1, 2, 4, 5] d s s4 := ((f1.tr (b1.mono (by decide) (by decide))).tr (b3.mono (by decide) (by decide))).tr (d1.mono (by decide) (by decide))
  have hDC0 : DC s4 d (zd S t (c.take 0)) := by
    show DC s4 d (List.range t.length, t.length, [])
    refine ⟨(b2.fz b3 (by decide) (by decide)).fz d1 (by decide) (by decide), by rw [d2, Nat.zero_add], fun i hi => ?_, fun i hi => Or.inl ⟨(d4 i (Nat.zero_le _) (by have hi : i < t.length := hi; omega)).2, fun k hk => absurd hk (by simp)⟩, fun k hk => absurd hk (by simp), ?_⟩
    · rw [(d4 i (Nat.zero_le _) (by have hi : i < t.length := hi; omega)).1]; rfl
    · rw [d1.2.2.2 2 (by decide), b3.2.2.2 2 (by decide), b1.2.2.2 2 (by decide), a12]; rfl
  have a14 : s4.1 d 1 = i32 (c.length : Int) := by rw [d1.2.2.2 1 (by decide), b3.2.2.2 1 (by decide), b1.2.2.2 1 (by decide), a11]
  have hloop : ∃ y, iterP (fLX3_draw_49 (h + d) (i32 (q : Int)) (i32 (t.length : Int))) (0, M h s4) = some y ∧ ∃ s', y = M h s' ∧ Fz [1, 2, 3, 4, 5, 6, 7, 8, 9, 10, 11, 12] [1, 2, 4, 5] d s s' ∧ s'.1 d 1 = i32 (c.length : Int) ∧ DC s' d (zd S t (c.take c.length)) := by
    refine loop_ex (fun k x => ∃ s', x = (i32 (k : Int), M h s') ∧ Fz [1, 2, 3, 4, 5, 6, 7, 8, 9, 10, 11, 12] [1, 2, 4, 5] d s s' ∧ s'.1 d 1 = i32 (c.length : Int) ∧ DC s' d (zd S t (c.take k))) _ c.length (fun k x hk hx => ?_) (fun x hx => ?_) ⟨s4, rfl, f4, a14, hDC0⟩
    · obtain ⟨s5, rfl, k1, k2, k3⟩ := hx
      obtain ⟨z1, z2, z3⟩ := zd_ok hS hD k (by omega)
      obtain ⟨o1, o2, o3⟩ := hD.2 k hk
      have hle := fit_le o3 (by omega)
      have hwk := (dvW_Wk hS hD k (by omega)).1
      have hfit := o3.2
      obtain ⟨s6, e6, m1, m2⟩ := c_zstep (h := h) H hS (hRS.fz H k1) (fun s0 => g_2_0) ht16 z1 k3 (p := (c.getD k (0, 0)).1) (r := (c.getD k (0, 0)).2) o2 (by omega) (by omega) (by omega) (by omega) (by omega)
      rw [z3] at e6
      refine ⟨(i32 ((k + 1 : Nat) : Int), M h s6), ?_, s6, rfl, k1.tr (m1.mono (by decide) (by decide)), by rw [m1.2.2.2 1 (by decide)]; exact k2, ?_⟩
      · unfold fLX3_draw_49
        simp only []
        rw [hz_1 H, sb, k2, if_neg (by rw [le32 (by omega) (by omega) (by omega) (by omega)]; omega), hz_0 H, sb, o_2, sb, c_codeAt hq (hP.fz H k1) hk, sb, hz_o H, sb, show cod (c.getD k (0, 0)) = cod ((c.getD k (0, 0)).1, (c.getD k (0, 0)).2) from rfl, e6, sb, xlet_eq, q1, a32]; rfl
      · rw [zd_succ hk]; exact m2
    · obtain ⟨s5, rfl, k1, k2, k3⟩ := hx
      refine ⟨M h s5, ?_, s5, rfl, k1, k2, k3⟩
      unfold fLX3_draw_49
      simp only []
      rw [hz_1 H, sb, k2, if_pos (by rw [le32 (by omega) (by omega) (by omega) (by omega)]; omega)]
  obtain ⟨y, e5, s5, rfl, k1, k2, k3⟩ := hloop
  rw [List.take_length] at k3
  obtain ⟨z1, z2, z3⟩ := zd_ok hS hD c.length (Nat.le_refl _)
  rw [List.take_length] at z1 z2 z3
  obtain ⟨s6, e6, m1, m2⟩ := c_ztold (h := h) (s := s5) H (n := t.length) ht16
  have f6 : Fz [1, 2, 3, 4, 5, 6, 7, 8, 9, 10, 11, 12] [1, 2, 4, 5] d s s6 := k1.tr (m1.mono (by decide) (by decide))
  obtain ⟨j1, j2, j3, j4, j5, j6⟩ := k3
  have hZs0 : ∀ s' : Mm, Fz [1, 10, 11, 12] [4] d s5 s' → Zk s' d (zd S t c).2.2 (zd S t c).2.1 ∧ Zs s' d (zd S t c).2.2 := by
    intro s' hf
    constructor
    · intro i hi
      rw [hf.2.1 3 (by decide) (by decide)]; exact j4 i hi
    · intro k hk
      obtain ⟨v1, v2, v3, v4, v5⟩ := j5 k hk
      refine ⟨v1.fz hf (by decide) (by decide), ?_, ?_, ?_, ?_⟩
      · rw [hf.2.1 6 (by decide) (by decide)]; exact v2
      · rw [hf.2.1 7 (by decide) (by decide)]; exact v3
      · rw [hf.2.1 8 (by decide) (by decide)]; exact v4
      · rw [hf.2.1 9 (by decide) (by decide)]; exact v5
  have hne : ∀ k, k < (zd S t c).2.2.length → zA (zd S t c).2.2 k ≠ [] := fun k hk => (z1.2.2.2.2.1 k hk).1
  have hall := CI.all hne (CI.init z1)
  have hcb : ∀ k, k < c.length → (c.getD k (0, 0)).1 < 16 ∧ (c.getD k (0, 0)).2 < 12 := fun k hk => by
    obtain ⟨o1, o2, -⟩ := hD.2 k hk
    have := (dvW_Wk hS hD k (by omega)).1
    have := hS.2.1
    omega
  have hloop2 : ∃ y, iterP (fLX3_draw_84 (h + d) (i32 (q : Int))) (0, M h s6) = some y ∧ ∃ s', y = M h s' ∧ Fz [1, 10, 11, 12] [4] d s5 s' ∧ ZO s' d c (zcs (zd S t c).2.2 (List.range t.length) c.length).2 := by
    refine loop_ex (fun k x => ∃ s', x = (i32 (k : Int), M h s') ∧ Fz [1, 10, 11, 12] [4] d s5 s' ∧ Zr s' d (zcs (zd S t c).2.2 (List.range t.length) k).1 ∧ ZO s' d c (zcs (zd S t c).2.2 (List.range t.length) k).2) _ c.length (fun k x hk hx => ?_) (fun x hx => ?_) ⟨s6, rfl, m1.mono (by decide) (by decide), m2, fun j hj => absurd hj (by simp [zcs])⟩
    · obtain ⟨s7, rfl, n1, n2, n3⟩ := hx
      obtain ⟨L, hC, hLl⟩ := hall k (by omega)
      have hol : (zcs (zd S t c).2.2 (List.range t.length) k).2.length = k := by
        have := hC.2.2.2.2.2.2.2
        omega
      obtain ⟨y1, y2⟩ := hZs0 s7 n1
      have f7 : Fz [1, 2, 3, 4, 5, 6, 7, 8, 9, 10, 11, 12] [1, 2, 4, 5] d s s7 := k1.tr (n1.mono (by decide) (by decide))
      obtain ⟨s8, e8, p1, p2, p3⟩ := c_zmost (h := h) H hS hq (hP.fz H f7) hcb ht16 z1 z3 y1 y2 hC (fun hz => by rw [hz] at hLl; simp at hLl; omega) n2 n3
      rw [hol] at e8
      refine ⟨(i32 ((k + 1 : Nat) : Int), M h s8), ?_, s8, rfl, n1.tr p1, p2, p3⟩
      unfold fLX3_draw_84
      simp only []
      rw [hz_1 H, sb, n1.2.2.2 1 (by decide), k2, if_neg (by rw [le32 (by omega) (by omega) (by omega) (by omega)]; omega), hz_o H, sb, e8, sb, xlet_eq, q1, a32]; rfl
    · obtain ⟨s7, rfl, n1, n2, n3⟩ := hx
      refine ⟨M h s7, ?_, s7, rfl, n1, n3⟩
      unfold fLX3_draw_84
      simp only []
      rw [hz_1 H, sb, n1.2.2.2 1 (by decide), k2, if_pos (by rw [le32 (by omega) (by omega) (by omega) (by omega)]; omega)]
  obtain ⟨y, e7, s7, rfl, n1, n2⟩ := hloop2
  have f7 : Fz [1, 2, 3, 4, 5, 6, 7, 8, 9, 10, 11, 12] [1, 2, 4, 5] d s s7 := k1.tr (n1.mono (by decide) (by decide))
  refine ⟨s7, ?_, f7.fr (by decide), by rw [n1.2.2.2 1 (by decide)]; exact k2, by rw [n1.2.2.2 2 (by decide)]; exact j6, (hZs0 s7 n1).2, n2⟩
  unfold fX3_draw
  have hst : aI (M h s) (h + 11) 0 (i32 (q : Int)) = some (i32 (c.length : Int)) := by rw [a_11 (by omega) (by omega), tn0, hP.2.1]
  have htd : aL (M h s1) (h + 9) (i32 (q : Int)) = some (i64 (cw t : Int)) := by rw [a_9 (by omega) (by omega), tn0, f1.1, hP.1]
  have w1 : wrF (M h (mI s d (upd (s.1 d) 1 (i32 (c.length : Int))))) (h + d) 3 2 (.int 0) = some (M h s1) := by rw [hzw_2 H, es1]
  have w3 : wrF (M h s2) (h + d) 3 5 (.int 0) = some (M h s3) := by rw [hzw_5 H, es3]
  rw [hz_0 H, sb, g_2_3, sb, hst, sb, hzw_1 H, sb, w1, sb, hz_0 H, sb, g_2_1, sb, htd, sb, c_len hWt, sb, hz_o H, sb, e2, sb, w3, sb, hz_o H, sb, e4, sb, e5, sb, hz_o H, sb, e6, sb, e7, sb]
end ZD
