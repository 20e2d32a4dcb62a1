/-! rules anywhere: cells r to r + 5; a rule added; OVERLAPS in the class: closed, open ones, the least open one, its rule -/
def Rb (r : Nat) : Prop := r + 5 < 300 ∧ sh r = .inr (8, [0, 0, r + 1 + 2, r + 2 + 2, r + 3 + 2, r + 4 + 2, 0, r + 5 + 2, 0]) ∧ sh (r + 1) = .inl (1, 12) ∧ sh (r + 2) = .inl (1, 12) ∧ sh (r + 3) = .inl (0, 5) ∧ sh (r + 4) = .inl (0, 5) ∧ sh (r + 5) = .inl (0, 5)
theorem rb3 : Rb 3 := ⟨by decide, by decide +kernel, by decide +kernel, by decide +kernel, by decide +kernel, by decide +kernel, by decide +kernel⟩
theorem rb14 : Rb 14 := ⟨by decide, by decide +kernel, by decide +kernel, by decide +kernel, by decide +kernel, by decide +kernel, by decide +kernel⟩
theorem rb247 : Rb 247 := ⟨by decide, by decide +kernel, by decide +kernel, by decide +kernel, by decide +kernel, by decide +kernel, by decide +kernel⟩
section RB
variable {h r : Nat} {s : Mm} {e : Int}
theorem rb_o (H : Rb r) : isO (M h s) (h + r) 8 = some () := isO_M H.2.1 (by have := H.1; omega)
theorem rb_0 (H : Rb r) : gI (M h s) (h + r) 8 0 = some (s.1 r 0) := gI_M H.2.1 rfl (by have := H.1; omega)
theorem rb_1 (H : Rb r) : gI (M h s) (h + r) 8 1 = some (s.1 r 1) := gI_M H.2.1 rfl (by have := H.1; omega)
theorem rb_6 (H : Rb r) : gI (M h s) (h + r) 8 6 = some (s.1 r 6) := gI_M H.2.1 rfl (by have := H.1; omega)
theorem rb_2 (H : Rb r) : gR (M h s) (h + r) 8 2 = some (h + (r + 1)) := gR_M H.2.1 rfl (by have := H.1; omega) (by have := H.1; omega)
theorem rb_3 (H : Rb r) : gR (M h s) (h + r) 8 3 = some (h + (r + 2)) := gR_M H.2.1 rfl (by have := H.1; omega) (by have := H.1; omega)
theorem rb_4 (H : Rb r) : gR (M h s) (h + r) 8 4 = some (h + (r + 3)) := gR_M H.2.1 rfl (by have := H.1; omega) (by have := H.1; omega)
theorem rb_5 (H : Rb r) : gR (M h s) (h + r) 8 5 = some (h + (r + 4)) := gR_M H.2.1 rfl (by have := H.1; omega) (by have := H.1; omega)
theorem rbw_0 (H : Rb r) {v : Int32} : wrF (M h s) (h + r) 8 0 (.int v) = some (M h (mI s r (upd (s.1 r) 0 v))) := wI_M H.2.1 rfl (by have := H.1; omega)
theorem rbw_1 (H : Rb r) {v : Int32} : wrF (M h s) (h + r) 8 1 (.int v) = some (M h (mI s r (upd (s.1 r) 1 v))) := wI_M H.2.1 rfl (by have := H.1; omega)
theorem rbw_6 (H : Rb r) {v : Int32} : wrF (M h s) (h + r) 8 6 (.int v) = some (M h (mI s r (upd (s.1 r) 6 v))) := wI_M H.2.1 rfl (by have := H.1; omega)
theorem rbs_1 (H : Rb r) {v : Int64} (h1 : 0 ≤ e) (h2 : e < 12) : sL (M h s) (h + (r + 1)) (i32 e) v = some (M h (mL s (r + 1) (vp_updL (s.2 (r + 1)) e.toNat v))) := sL_M H.2.2.1 (by have := H.1; omega) h1 h2 (by decide)
theorem rbs_2 (H : Rb r) {v : Int64} (h1 : 0 ≤ e) (h2 : e < 12) : sL (M h s) (h + (r + 2)) (i32 e) v = some (M h (mL s (r + 2) (vp_updL (s.2 (r + 2)) e.toNat v))) := sL_M H.2.2.2.1 (by have := H.1; omega) h1 h2 (by decide)
theorem rbs_3 (H : Rb r) {v : Int32} (h1 : 0 ≤ e) (h2 : e < 5) : sI (M h s) (h + (r + 3)) (i32 e) v = some (M h (mI s (r + 3) (upd (s.1 (r + 3)) e.toNat v))) := sI_M H.2.2.2.2.1 (by have := H.1; omega) h1 h2 (by decide)
theorem rbs_4 (H : Rb r) {v : Int32} (h1 : 0 ≤ e) (h2 : e < 5) : sI (M h s) (h + (r + 4)) (i32 e) v = some (M h (mI s (r + 4) (upd (s.1 (r + 4)) e.toNat v))) := sI_M H.2.2.2.2.2.1 (by have := H.1; omega) h1 h2 (by decide)
def addRule (S : Sys) (u v : List Nat) : Sys := (S.1, S.2.1 ++ [(u, v)], S.2.2)
theorem addRule_nr {S : Sys} {u v : List Nat} : nr (addRule S u v) = nr S + 1 := by
  unfold nr addRule
  rw [List.length_append]; rfl
theorem addRule_1 {S : Sys} {u v : List Nat} {k : Nat} (hk : k < nr S) : rl (addRule S u v) k = rl S k ∧ rr (addRule S u v) k = rr S k := by
  unfold rl rr addRule
  simp only []
  rw [getD_app1 hk]
  exact ⟨rfl, rfl⟩
theorem addRule_2 {S : Sys} {u v : List Nat} : rl (addRule S u v) (nr S) = u ∧ rr (addRule S u v) (nr S) = v := by
  unfold rl rr addRule nr
  simp only []
  rw [getD_app2]
  exact ⟨rfl, rfl⟩
theorem addRule_wf {S : Sys} (hS : WfS S) {u v : List Nat} (hn : nr S < 12) (hu : Wk S.1 u) (hv : Wk S.1 v) (hne : u ≠ []) : WfS (addRule S u v) := by
  refine ⟨hS.1, by rw [addRule_nr]; omega, fun r hr => ?_, hS.2.2.2⟩
  rw [addRule_nr] at hr
  by_cases c : r = nr S
  · subst c
    rw [addRule_2.1, addRule_2.2]
    exact ⟨hu, hv, hne⟩
  · rw [(addRule_1 (by omega)).1, (addRule_1 (by omega)).2]
    exact hS.2.2.1 r (by omega)
theorem c_addRule (H : Rb r) {S : Sys} (hR : RS s r S) (hn : nr S < 12) {u v : List Nat} : ∃ s' : Mm, fX8_add (M h s) (h + r) (i64 (cw u : Int)) (i64 (cw v : Int)) = some (M h s') ∧ RS s' r (addRule S u v) ∧ Fr r (r + 2) s s' ∧ s'.1 r 6 = s.1 r 6 + 1 ∧ (∀ j, j ≠ 1 → j ≠ 6 → s'.1 r j = s.1 r j) := by
  obtain ⟨i1, i2, i3, i4, i5, i6⟩ := hR
  unfold fX8_add
  rw [rb_1 H, sb, i2, if_pos (by rw [q12]; rw [lt32 (by omega) (by omega) (by omega) (by omega)]; omega)]
  simp only [rb_2 H, sb, rb_1 H, i2, rbs_1 H (show (0 : Int) ≤ (nr S : Int) by omega) (show (nr S : Int) < 12 by omega), tn0, rb_3 H, mL1, rbs_2 H (show (0 : Int) ≤ (nr S : Int) by omega) (show (nr S : Int) < 12 by omega), mL_ne (show r + 2 ≠ r + 1 by omega), q1, a32, rbw_1 H, rb_6 H, mI_at, upd_ne (show (6 : Nat) ≠ 1 by decide), rbw_6 H, mI_mI]
  refine ⟨_, rfl, ⟨?_, ?_, ?_, ?_, ?_, ?_⟩, ?_, ?_, ?_⟩
  · rw [mI_at, upd_ne (by decide), upd_ne (by decide)]; exact i1
  · rw [mI_at, upd_ne (by decide), upd_at, addRule_nr]; rfl
  · intro k hk
    rw [addRule_nr] at hk
    rw [mI2, mL_ne (by omega), mL_at]
    by_cases c : k = nr S
    · subst c
      rw [updL_at, addRule_2.1]
    · rw [updL_ne c, (addRule_1 (by omega)).1]
      exact i3 k (by omega)
  · intro k hk
    rw [addRule_nr] at hk
    rw [mI2, mL_at]
    by_cases c : k = nr S
    · subst c
      rw [updL_at, addRule_2.2]
    · rw [updL_ne c, (addRule_1 (by omega)).2]
      exact i4 k (by omega)
  · intro x hx
    rw [mI_ne (by omega)]
    exact i5 x hx
  · intro x hx
    rw [mI_ne (by omega)]
    exact i6 x hx
  · exact ((Fr.rf.mL (by omega) (by omega)).mL (by omega) (by omega)).mI (by omega) (by omega)
  · rw [mI_at, upd_at]
  · intro j h1 h2
    rw [mI_at, upd_ne h2, upd_ne h1]
end RB
section CC
variable {h : Nat} {s : Mm} {S : Sys} {O : List Ov}
theorem cod_ov (hS : WfS S) {o : Ov} (ho : okO S o) : codV o / 2 ^ 8 = o.1 ∧ codV o / 2 ^ 4 % 16 = o.2.1 ∧ codV o % 16 = o.2.2.1 ∧ codV o < 4096 := by
  have h1 := hS.2.1
  have h2 := (wl hS ho.1).1
  obtain ⟨a1, a2, a3, -⟩ := ho
  unfold codV
  omega
theorem c_first (hS : WfS S) (hC : OC s S O) {k : Nat} (hk : k < O.length) : fX5_firstRule (M h s) (h + 256) (i32 (k : Int)) = some (i32 ((ovd O k).1 : Int)) := by
  obtain ⟨i1, i2, i3, i4, i5, i6⟩ := hC
  obtain ⟨e1, -, -, e4⟩ := cod_ov hS (i3 _ (ovd_mem hk))
  unfold fX5_firstRule
  rw [g_256_3, sb, a_258 (by omega) (by omega), tn0, i5 k hk, sb, show (8 : Int32) = i32 ((8 : Nat) : Int) from by decide, sar32 (by omega) (by decide), e1]
theorem c_second (hS : WfS S) (hC : OC s S O) {k : Nat} (hk : k < O.length) : fX5_secondRule (M h s) (h + 256) (i32 (k : Int)) = some (i32 ((ovd O k).2.1 : Int)) := by
  obtain ⟨i1, i2, i3, i4, i5, i6⟩ := hC
  obtain ⟨-, e2, -, e4⟩ := cod_ov hS (i3 _ (ovd_mem hk))
  unfold fX5_secondRule
  rw [g_256_3, sb, a_258 (by omega) (by omega), tn0, i5 k hk, sb, show (4 : Int32) = i32 ((4 : Nat) : Int) from by decide, sar32 (by omega) (by decide), and15, e2]
theorem c_shift (hS : WfS S) (hC : OC s S O) {k : Nat} (hk : k < O.length) : fX5_shift (M h s) (h + 256) (i32 (k : Int)) = some (i32 ((ovd O k).2.2.1 : Int)) := by
  obtain ⟨i1, i2, i3, i4, i5, i6⟩ := hC
  obtain ⟨-, -, e3, e4⟩ := cod_ov hS (i3 _ (ovd_mem hk))
  unfold fX5_shift
  rw [g_256_3, sb, a_258 (by omega) (by omega), tn0, i5 k hk, sb, and15, e3]
theorem OC.fr {s' : Mm} {lo hi : Nat} (hC : OC s S O) (hf : Fr lo hi s s') (hl : 259 < lo ∨ hi < 256) : OC s' S O := by
  unfold OC
  rw [hf.I 256 (by omega), hf.L 257 (by omega), hf.I 258 (by omega), hf.I 259 (by omega)]
  exact hC
theorem c_ovEnd (hS : WfS S) (hR : RS s 3 S) (hC : OC s S O) {k : Nat} (hk : k < O.length) {p r : Nat} (hx : okS S (ovd O k).2.2.2 (p, r)) (hw : Wk S.1 (ovd O k).2.2.2) : ∃ s' : Mm, fX5_endOf (M h s) (h + 256) (i32 (k : Int)) (i32 (p : Int)) (i32 (r : Int)) = some (i64 (cw (runS S 0 (aft S (ovd O k).2.2.2 (p, r))).2.2.1 : Int), M h s') ∧ Fr 253 255 s s' ∧ Wk S.1 (runS S 0 (aft S (ovd O k).2.2.2 (p, r))).2.2.1 := by
  obtain ⟨s', z1, z2, z3, -⟩ := c_runFrom (h := h) hS hR (aft_Wk hS hw hx) (way := 0) (by decide)
  obtain ⟨i1, i2, i3, i4, i5, i6⟩ := hC
  refine ⟨s', ?_, z2.1, z3⟩
  have z1 : fX9_runFrom _ _ _ 0 = _ := z1
  unfold fX5_endOf
  rw [g_256_1, sb, g_256_0, sb, g_256_2, sb, a_257 (by omega) (by omega), tn0, i4 k hk, sb, c_codeOf, sb, o_3, sb, c_after hS hR (hw.ww hS.1.2) hx, sb, o_253, sb, z1, sb]
/-- both ends, as the class finds them -/
theorem c_ends (hS : WfS S) (hR : RS s 3 S) (hC : OC s S O) {k : Nat} (hk : k < O.length) : ∃ s1 s2 : Mm, fX5_endOf (M h s) (h + 256) (i32 (k : Int)) 0 (i32 ((ovd O k).1 : Int)) = some (i64 (cw (end1 S (ovd O k)) : Int), M h s1) ∧ fX5_endOf (M h s1) (h + 256) (i32 (k : Int)) (i32 ((ovd O k).2.2.1 : Int)) (i32 ((ovd O k).2.1 : Int)) = some (i64 (cw (end2 S (ovd O k)) : Int), M h s2) ∧ Fr 253 255 s s1 ∧ Fr 253 255 s1 s2 ∧ Wk S.1 (end1 S (ovd O k)) ∧ Wk S.1 (end2 S (ovd O k)) := by
  have ho := hC.2.2.1 _ (ovd_mem hk)
  obtain ⟨w1, w2, w3⟩ := lay_ok hS ho.1 ho.2.1 ho.2.2.1 ho.2.2.2
  obtain ⟨s1, z1, z2, z3⟩ := c_ovEnd (h := h) hS hR hC hk w2 w1
  obtain ⟨s2, y1, y2, y3⟩ := c_ovEnd (h := h) hS (hR.fr z2 (Or.inl (by decide))) (hC.fr z2 (Or.inr (by decide))) hk w3 w1
  exact ⟨s1, s2, z1, y1, z2, y2, z3, y3⟩
theorem c_isClosed (hS : WfS S) (hR : RS s 3 S) (hC : OC s S O) {k : Nat} (hk : k < O.length) : ∃ s' : Mm, fX5_isClosed (M h s) (h + 256) (i32 (k : Int)) = some (if end1 S (ovd O k) = end2 S (ovd O k) then 1 else 0, M h s') ∧ Fr 253 259 s s' ∧ OC s' S O ∧ s'.1 256 6 = s.1 256 6 := by
  obtain ⟨i1, i2, i3, i4, i5, i6⟩ := id hC
  obtain ⟨s1, s2, z1, z2, z3, z4, z5, z6⟩ := c_ends (h := h) hS hR hC hk
  have hlast : ∀ (s0 : Mm), (s0.1 259 k = (if end1 S (ovd O k) = end2 S (ovd O k) then 1 else 2)) → fJX5_isClosed_m_57 (M h s0) (h + 256) (i32 (k : Int)) = some (if end1 S (ovd O k) = end2 S (ovd O k) then 1 else 0, M h s0) := by
    intro s0 hv
    unfold fJX5_isClosed_m_57
    rw [g_256_4, sb, a_259 (by omega) (by omega), tn0, hv, sb]
    by_cases c : end1 S (ovd O k) = end2 S (ovd O k)
    · rw [if_pos c, if_pos rfl, if_pos c]
    · rw [if_neg c, if_neg (by decide), if_neg c]
  unfold fX5_isClosed
  rw [g_256_4, sb, a_259 (by omega) (by omega), tn0, sb]
  by_cases c0 : s.1 259 k = 0
  · rw [if_pos c0]
    have hC1 := hC.fr z3 (Or.inr (by decide))
    simp only [o_256, sb, c_first hS hC hk, z1, c_shift hS hC1 hk, c_second hS hC1 hk, z2, g_256_4]
    have hC2 := hC1.fr z4 (Or.inr (by decide))
    have hF2 : Fr 253 259 s s2 := (z3.tr z4).mono (by decide) (by decide)
    have hset : ∀ v : Int32, v = (if end1 S (ovd O k) = end2 S (ovd O k) then 1 else 2) → v.toInt8.toInt32 = v → vp_nar .byte v = v → ∃ s' : Mm, fJX5_isClosed_m_55 (M h s2) (h + 256) (i32 (k : Int)) v (i32 (k : Int)) (h + 259) = some (if end1 S (ovd O k) = end2 S (ovd O k) then 1 else 0, M h s') ∧ Fr 253 259 s s' ∧ OC s' S O ∧ s'.1 256 6 = s.1 256 6 := by
      intro v hv hv2 hv3
      refine ⟨mI s2 259 (upd (s2.1 259) k v), ?_, hF2.mI (by decide) (by decide), ?_, ?_⟩
      · unfold fJX5_isClosed_m_55
        rw [hv2, s_259 (by omega) (by omega), sb, tn0, hv3]
        exact hlast _ (by rw [mI_at, upd_at, hv])
      · obtain ⟨j1, j2, j3, j4, j5, j6⟩ := hC2
        refine ⟨by rw [mI_ne (by decide)]; exact j1, j2, j3, j4, fun t ht => by rw [mI_ne (by decide)]; exact j5 t ht, fun t ht => ?_⟩
        rw [mI_at]
        by_cases ct : t = k
        · subst ct
          rw [upd_at]; exact Or.inr hv
        · rw [upd_ne ct]; exact j6 t ht
      · rw [mI_ne (by decide), z4.I 256 (by decide), z3.I 256 (by decide)]
    by_cases c : end1 S (ovd O k) = end2 S (ovd O k)
    · rw [if_pos (by rw [cmp0, c])]
      exact hset 1 (by rw [if_pos c]) (by decide) (by decide)
    · rw [if_neg (by rw [cmp0, cwe (z5.ww hS.1.2) (z6.ww hS.1.2)]; exact c)]
      exact hset 2 (by rw [if_neg c]) (by decide) (by decide)
  · rw [if_neg c0]
    have := (i6 k hk).resolve_left c0
    exact ⟨s, hlast s this, Fr.rf, hC, rfl⟩
def opn (S : Sys) : Nat := ((ovs S).filter (fun o => decide (¬ end1 S o = end2 S o))).length
theorem fold_ovd {A : Type} (g : A → Ov → A) (O : List Ov) (a : A) : (List.range O.length).foldl (fun a k => g a (ovd O k)) a = O.foldl g a := fold_list g (0, 0, 0, []) O a
theorem c_openOnes (hS : WfS S) (hR : RS s 3 S) (hc : s.1 256 6 = s.1 3 6 → OC s S (ovs S)) : ∃ s' : Mm, fX5_openOnes (M h s) (h + 256) = some (i32 (opn S : Int), M h s') ∧ Fr 253 259 s s' ∧ OC s' S (ovs S) ∧ s'.1 256 6 = s.1 3 6 := by
  obtain ⟨s0, z1, z2, z3, z4⟩ := c_gather (h := h) hS hR hc
  have hR0 := hR.fr z2 (Or.inl (by decide))
  have h23 := z3.2.1
  obtain ⟨y, k1, k2⟩ := loop_rel (F := fLX5_openOnes_8 (h + 256)) (E := Empty) (fun (a : Nat) k => .inl (if ¬ end1 S (ovd (ovs S) k) = end2 S (ovd (ovs S) k) then a + 1 else a))
    (fun a k x => ∃ s' : Mm, x = (i32 (a : Int), i32 (k : Int), M h s') ∧ Fr 253 259 s0 s' ∧ OC s' S (ovs S) ∧ s'.1 256 6 = s.1 3 6) (fun a y => ∃ s' : Mm, y = (i32 (a : Int), M h s') ∧ Fr 253 259 s0 s' ∧ OC s' S (ovs S) ∧ s'.1 256 6 = s.1 3 6) (fun e _ => e.elim) (ovs S).length (by
      rintro a k x hk ⟨s', rfl, hF, hC, h6⟩
      obtain ⟨s1, n1, n2, n3, n4⟩ := c_isClosed (h := h) hS (hR0.fr hF (Or.inl (by decide))) hC hk
      unfold fLX5_openOnes_8
      rw [g_256_5, sb, hC.1, if_neg (by rw [le32 (by omega) (by omega) (by omega) (by omega)]; omega), o_256, sb, n1, sb]
      by_cases c : end1 S (ovd (ovs S) k) = end2 S (ovd (ovs S) k)
      · rw [if_pos c, if_neg (by show ¬ (1 : Int32) = 0; decide), xlet_eq, q1, a32, if_neg (fun hn => hn c)]
        exact ⟨_, rfl, _, rfl, s1, rfl, hF.tr n2, n3, by rw [n4, h6]⟩
      · rw [if_neg c, if_pos (show (0 : Int32) = 0 from rfl), xlet_eq, xlet_eq, q1, a32, a32, if_pos c]
        exact ⟨_, rfl, _, rfl, s1, rfl, hF.tr n2, n3, by rw [n4, h6]⟩) (by
      rintro a x ⟨s', rfl, hF, hC, h6⟩
      unfold fLX5_openOnes_8
      rw [g_256_5, sb, hC.1, if_pos (by rw [le32 (by omega) (by omega) (by omega) (by omega)]; omega)]
      exact ⟨_, rfl, s', rfl, hF, hC, h6⟩) (a := 0) (x := (0, 0, M h s0)) ⟨s0, rfl, Fr.rf, z3, z4⟩
  rw [walk_fold, fold_ovd (fun (a : Nat) o => if ¬ end1 S o = end2 S o then a + 1 else a), filt_cnt (fun o => ¬ end1 S o = end2 S o), Nat.zero_add] at k2
  obtain ⟨s', rfl, k3, k4, k5⟩ := k2
  refine ⟨s', ?_, (z2.mono (by decide) (by decide)).tr k3, k4, k5⟩
  unfold fX5_openOnes
  rw [o_256, sb, z1, sb, k1, sb]; rfl
def loG (S : Sys) (b : Option Nat) (k : Nat) : Option Nat := if end1 S (ovd (ovs S) k) = end2 S (ovd (ovs S) k) then b else match b with
  | none => some k
  | some j => if cmpS S (ovd (ovs S) k).2.2.2 (ovd (ovs S) j).2.2.2 < 0 then some k else some j
/-- the least open overlap, by its number -/
def lo (S : Sys) : Option Nat := (List.range (ovs S).length).foldl (loG S) none
def natO (b : Option Nat) : Int := match b with
  | some k => (k : Int)
  | none => -1
theorem cmp3 (S : Sys) (a b : List Nat) : cmpS S a b = 1 ∨ cmpS S a b = 0 ∨ cmpS S a b = -1 := by
  unfold cmpS
  split
  · split
    · split
      · exact Or.inl rfl
      · exact Or.inr (Or.inr rfl)
    · exact Or.inr (Or.inl rfl)
  · split
    · exact Or.inl rfl
    · exact Or.inr (Or.inr rfl)
theorem c_leastOpen (hS : WfS S) (hR : RS s 3 S) (hc : s.1 256 6 = s.1 3 6 → OC s S (ovs S)) : ∃ s' : Mm, fX5_leastOpen (M h s) (h + 256) = some (i32 (natO (lo S)), M h s') ∧ Fr 253 259 s s' ∧ OC s' S (ovs S) ∧ s'.1 256 6 = s.1 3 6 ∧ ∀ k, lo S = some k → k < (ovs S).length ∧ ¬ end1 S (ovd (ovs S) k) = end2 S (ovd (ovs S) k) := by
  obtain ⟨s0, z1, z2, z3, z4⟩ := c_gather (h := h) hS hR hc
  have hR0 := hR.fr z2 (Or.inl (by decide))
  have h23 := z3.2.1
  obtain ⟨y, k1, k2⟩ := loop_rel (F := fLX5_leastOpen_8 (h + 256)) (E := Empty) (fun (b : Option Nat) k => .inl (loG S b k))
    (fun b k x => ∃ s' : Mm, x = (i32 (natO b), i32 (k : Int), M h s') ∧ Fr 253 259 s0 s' ∧ OC s' S (ovs S) ∧ s'.1 256 6 = s.1 3 6 ∧ ∀ j, b = some j → j < k ∧ ¬ end1 S (ovd (ovs S) j) = end2 S (ovd (ovs S) j)) (fun b y => ∃ s' : Mm, y = (i32 (natO b), M h s') ∧ Fr 253 259 s0 s' ∧ OC s' S (ovs S) ∧ s'.1 256 6 = s.1 3 6 ∧ ∀ j, b = some j → j < (ovs S).length ∧ ¬ end1 S (ovd (ovs S) j) = end2 S (ovd (ovs S) j)) (fun e _ => e.elim) (ovs S).length (by
      rintro b k x hk ⟨s', rfl, hF, hC, h6, hb⟩
      obtain ⟨s1, n1, n2, n3, n4⟩ := c_isClosed (h := h) hS (hR0.fr hF (Or.inl (by decide))) hC hk
      have hR1 := (hR0.fr hF (Or.inl (by decide))).fr n2 (Or.inl (by decide))
      have hok : ∀ j, j < (ovs S).length → Wk S.1 (ovd (ovs S) j).2.2.2 := fun j hj => by
        have ho := hC.2.2.1 _ (ovd_mem hj)
        exact (lay_ok hS ho.1 ho.2.1 ho.2.2.1 ho.2.2.2).1
      have hw : ∀ j, j < (ovs S).length → aL (M h s1) (h + 257) (i32 (j : Int)) = some (i64 (cw (ovd (ovs S) j).2.2.2 : Int)) := fun j hj => by
        rw [a_257 (by omega) (by omega), tn0, n3.2.2.2.1 j hj]
      unfold fLX5_leastOpen_8 loG
      rw [g_256_5, sb, hC.1, if_neg (by rw [le32 (by omega) (by omega) (by omega) (by omega)]; omega), o_256, sb, n1, sb]
      by_cases c : end1 S (ovd (ovs S) k) = end2 S (ovd (ovs S) k)
      · rw [if_pos c, if_neg (by show ¬ (1 : Int32) = 0; decide), xlet_eq, q1, a32, if_pos c]
        exact ⟨_, rfl, _, rfl, s1, rfl, hF.tr n2, n3, by rw [n4, h6], fun j hj => ⟨by have := (hb j hj).1; omega, (hb j hj).2⟩⟩
      · rw [if_neg c, if_pos (show (0 : Int32) = 0 from rfl), if_neg c]
        cases b with
        | none =>
          rw [if_pos (show i32 (natO none) = -1 from by decide), xlet_eq, q1, a32]
          exact ⟨_, rfl, _, rfl, s1, rfl, hF.tr n2, n3, by rw [n4, h6], fun j hj => by cases hj; exact ⟨by omega, c⟩⟩
        | some j =>
          obtain ⟨b1, b2⟩ := hb j rfl
          rw [if_neg (show ¬ i32 (natO (some j)) = -1 from by rw [qm1, show natO (some j) = (j : Int) from rfl]; rw [eq32 (by omega) (by omega) (by omega) (by omega)]; omega)]
          simp only [g_256_0, g_256_2, sb, hw k hk, show natO (some j) = (j : Int) from rfl, hw j (by omega), o_3, c_order hS hR1 (hok k hk) (hok j (by omega)), xlet_eq, q1, a32]
          rcases cmp3 S (ovd (ovs S) k).2.2.2 (ovd (ovs S) j).2.2.2 with e | e | e
          · rw [e, if_pos (by decide), if_neg (by decide)]
            exact ⟨_, rfl, _, rfl, s1, rfl, hF.tr n2, n3, by rw [n4, h6], fun i hi => by cases hi; exact ⟨by omega, b2⟩⟩
          · rw [e, if_pos (by decide), if_neg (by decide)]
            exact ⟨_, rfl, _, rfl, s1, rfl, hF.tr n2, n3, by rw [n4, h6], fun i hi => by cases hi; exact ⟨by omega, b2⟩⟩
          · rw [e, if_neg (by decide), if_pos (by decide)]
            exact ⟨_, rfl, _, rfl, s1, rfl, hF.tr n2, n3, by rw [n4, h6], fun i hi => by cases hi; exact ⟨by omega, c⟩⟩) (by
      rintro b x ⟨s', rfl, hF, hC, h6, hb⟩
      unfold fLX5_leastOpen_8
      rw [g_256_5, sb, hC.1, if_pos (by rw [le32 (by omega) (by omega) (by omega) (by omega)]; omega)]
      exact ⟨_, rfl, s', rfl, hF, hC, h6, hb⟩) (a := none) (x := (-1, 0, M h s0)) ⟨s0, by rw [show i32 (natO none) = -1 from by decide]; rfl, Fr.rf, z3, z4, fun j hj => by cases hj⟩
  rw [walk_fold] at k2
  obtain ⟨s', rfl, k3, k4, k5, k6⟩ := k2
  refine ⟨s', ?_, (z2.mono (by decide) (by decide)).tr k3, k4, k5, k6⟩
  unfold fX5_leastOpen
  rw [o_256, sb, z1, sb, k1, sb]; rfl
def addOv (S : Sys) (o : Ov) : Sys := if 0 < cmpS S (end1 S o) (end2 S o) then addRule S (end1 S o) (end2 S o) else addRule S (end2 S o) (end1 S o)
theorem c_addOv (hS : WfS S) (hR : RS s 3 S) (hC : OC s S O) {k : Nat} (hk : k < O.length) (hn : nr S < 12) : ∃ s' : Mm, fX5_addRuleOf (M h s) (h + 256) (i32 (k : Int)) = some (M h s') ∧ RS s' 3 (addOv S (ovd O k)) ∧ (∀ i, ¬ (3 ≤ i ∧ i ≤ 5) → ¬ (253 ≤ i ∧ i ≤ 255) → s'.1 i = s.1 i ∧ s'.2 i = s.2 i) ∧ s'.1 3 6 = s.1 3 6 + 1 ∧ (∀ j, j ≠ 1 → j ≠ 6 → s'.1 3 j = s.1 3 j) := by
  obtain ⟨s1, s2, z1, z2, z3, z4, z5, z6⟩ := c_ends (h := h) hS hR hC hk
  have hC1 := hC.fr z3 (Or.inr (by decide))
  have hR2 := (hR.fr z3 (Or.inl (by decide))).fr z4 (Or.inl (by decide))
  have hF2 := z3.tr z4
  have hfin : ∀ (u v : List Nat), ∃ s' : Mm, fX8_add (M h s2) (h + 3) (i64 (cw u : Int)) (i64 (cw v : Int)) = some (M h s') ∧ RS s' 3 (addRule S u v) ∧ (∀ i, ¬ (3 ≤ i ∧ i ≤ 5) → ¬ (253 ≤ i ∧ i ≤ 255) → s'.1 i = s.1 i ∧ s'.2 i = s.2 i) ∧ s'.1 3 6 = s.1 3 6 + 1 ∧ (∀ j, j ≠ 1 → j ≠ 6 → s'.1 3 j = s.1 3 j) := by
    intro u v
    obtain ⟨s', y1, y2, y3, y4, y5⟩ := c_addRule (h := h) rb3 hR2 hn (u := u) (v := v)
    refine ⟨s', y1, y2, fun i h1 h2 => ⟨(y3 i h1).1.trans (hF2 i h2).1, (y3 i h1).2.trans (hF2 i h2).2⟩, ?_, ?_⟩
    · rw [y4, hF2.I 3 (by decide)]
    · intro j h1 h2
      rw [y5 j h1 h2, hF2.I 3 (by decide)]
  unfold fX5_addRuleOf addOv
  simp only [o_256, sb, c_first hS hC hk, z1, c_shift hS hC1 hk, c_second hS hC1 hk, z2, g_256_0, o_3, c_order hS hR2 z5 z6]
  rcases cmp3 S (end1 S (ovd O k)) (end2 S (ovd O k)) with e | e | e
  · obtain ⟨s', y⟩ := hfin (end1 S (ovd O k)) (end2 S (ovd O k))
    rw [e, if_neg (by decide), if_pos (by decide), y.1, sb]
    exact ⟨s', rfl, y.2⟩
  · obtain ⟨s', y⟩ := hfin (end2 S (ovd O k)) (end1 S (ovd O k))
    rw [e, if_pos (by decide), if_neg (by decide), y.1, sb]
    exact ⟨s', rfl, y.2⟩
  · obtain ⟨s', y⟩ := hfin (end2 S (ovd O k)) (end1 S (ovd O k))
    rw [e, if_pos (by decide), if_neg (by decide), y.1, sb]
    exact ⟨s', rfl, y.2⟩
end CC
