/-! CALLS that change: system -/
section SY
variable {h : Nat} {s s' : Mm} {g g' : Gst} {N : Nat} {B : List Nat} {t : Tk}
def PT (B : List Nat) (r : PR) : Prop := TV B r.2.1 ∧ r.1 ≤ 9 ∧ (r.1 = 0 → WfS r.2.2 ∧ nr r.2.2 ≤ 6)
theorem pTxt_g : ∀ (n : Nat) (t : Tk) (S : Sys), TV B t → WfS S → nr S ≤ 6 → PT B (pTxt B n t S) := by
  intro n
  induction n with
  | zero => intro t S hV hS h6; exact ⟨hV, by show (9 : Nat) ≤ 9; decide, fun h9 => absurd h9 (by show ¬ (9 : Nat) = 0; decide)⟩
  | succ n ih =>
    intro t S hV hS h6
    rw [pTxt]
    have hn := (nx_tv hV.2.1).1
    obtain ⟨l1, l2, l3⟩ := pLin_g hn hS h6
    split
    · split
      · exact ⟨hn, by show (0 : Nat) ≤ 9; decide, fun _ => ⟨hS, h6⟩⟩
      · split
        · rename_i c
          exact ih _ _ l1 (l3 c).2.1 (l3 c).2.2
        · exact ⟨l1, by omega, fun h9 => (l3 h9).2⟩
    · exact ⟨hV, by show (1 : Nat) ≤ 9; decide, fun h9 => absurd h9 (by show ¬ (1 : Nat) = 0; decide)⟩
theorem pAll_g : PT B (pAll B) := by
  obtain ⟨v1, w1⟩ := nx_tv (B := B) (p := 0) (by omega)
  obtain ⟨v2, w2⟩ := nx_tv v1.2.1
  obtain ⟨v3, w3⟩ := nx_tv v2.2.1
  unfold pAll
  split
  · split
    · rename_i c
      have hb : 1 ≤ pNm B (nx B (nx B 0).2.2) ∧ pNm B (nx B (nx B 0).2.2) ≤ 5 := by
        unfold pNf at c
        split at c
        · split at c
          · assumption
          · exact absurd c (by decide)
        · exact absurd c (by decide)
      exact pTxt_g 301 _ _ v3 (sys0_wf hb.1 hb.2) (by show 0 ≤ 6; omega)
    · have := pNf_le (B := B) (t := nx B (nx B 0).2.2) (m := 5)
      rename_i c
      exact ⟨v2, by show pNf B (nx B (nx B 0).2.2) 5 ≤ 9; omega, fun h9 => absurd h9 c⟩
  · exact ⟨v1, by show (1 : Nat) ≤ 9; decide, fun h9 => absurd h9 (by show ¬ (1 : Nat) = 0; decide)⟩
def emP : Nat → List Nat := fun _ => []
def smR (g : Gst) (a : Int) : Gst × Nat × Int := if 0 ≤ a ∧ a ≤ g.2.2.2.1.length then (if (pAll (g.2.2.2.1.take a.toNat)).1 = 0 then ((allP (pAll (g.2.2.2.1.take a.toNat)).2.2 emP, [], g.2.2.1, [], -1, g.2.2.2.2.2), 0, (nr (pAll (g.2.2.2.1.take a.toNat)).2.2 : Int)) else ((g.1, g.2.1, g.2.2.1, [], ((pAll (g.2.2.2.1.take a.toNat)).2.1.1 : Int), g.2.2.2.2.2), 0, -10 - ((pAll (g.2.2.2.1.take a.toNat)).1 : Int))) else (g, 1, 0)
theorem smR_b {a : Int} : (smR g a).2.1 ≤ 2 ∧ -2147483648 ≤ (smR g a).2.2 ∧ (smR g a).2.2 ≤ 2147483647 := by
  have hp := pAll_g (B := g.2.2.2.1.take a.toNat)
  unfold smR
  split
  · split
    · rename_i c
      have := (hp.2.2 c).2
      simp only []; omega
    · have := hp.2.1
      simp only []; omega
  · simp only []; omega
theorem smR_ok (hk : okG g) {a : Int} : okG (smR g a).1 := by
  obtain ⟨o1, o2, o3, o4⟩ := hk
  have hn : ∀ j, bt [] j < 256 := fun j => by unfold bt; exact (by decide : (0 : Nat) < 256)
  have hp := pAll_g (B := g.2.2.2.1.take a.toNat)
  unfold smR
  split
  · split
    · exact ⟨by show 0 ≤ 300; omega, hn, by show -1 ≤ (-1 : Int) ∧ (-1 : Int) ≤ 1000; omega, o4⟩
    · have h1 := hp.1.1
      rw [List.length_take] at h1
      exact ⟨by show 0 ≤ 300; omega, hn, by show -1 ≤ ((pAll (g.2.2.2.1.take a.toNat)).2.1.1 : Int) ∧ ((pAll (g.2.2.2.1.take a.toNat)).2.1.1 : Int) ≤ 1000; omega, o4⟩
  · exact ⟨o1, o2, o3, o4⟩
theorem bt_take {n : Nat} (hb : ∀ j, bt B j < 256) (j : Nat) : bt (B.take n) j < 256 := by
  unfold bt at *
  by_cases c : j < n
  · rw [List.getD_eq_getElem?_getD, List.getElem?_take_of_lt c, ← List.getD_eq_getElem?_getD]; exact hb j
  · rw [List.getD_eq_getElem?_getD, List.getElem?_eq_none (by rw [List.length_take]; omega)]
    exact (by decide : (0 : Nat) < 256)
theorem bt_tk {n j : Nat} (hj : j < n) : bt (B.take n) j = bt B j := by
  unfold bt
  rw [List.getD_eq_getElem?_getD, List.getElem?_take_of_lt hj, ← List.getD_eq_getElem?_getD]
/-- the fault, and nothing else of what is invariant, changed -/
theorem CV.fault {v : Int} (hC : CV s N g) : CV (mI s 0 (upd (s.1 0) 2 (i32 v))) N (g.1, g.2.1, g.2.2.1, g.2.2.2.1, v, g.2.2.2.2.2) := by
  obtain ⟨h1, h2, h3, h4, h5, h6, h7, a, b, h8⟩ := hC
  have hf : Fr 0 0 s (mI s 0 (upd (s.1 0) 2 (i32 v))) := Fr.rf.mI (by decide) (by decide)
  refine ⟨h1.fr hf (by omega), h2.fr hf (by omega), ?_, ?_, by rw [mI_at, upd_at], ?_, ?_, a, b, h8.fr hf (by omega)⟩
  · unfold KPc at *
    cases hI : g.2.2.1 with
    | none =>
      rw [hI] at h3
      show (mI s 0 (upd (s.1 0) 2 (i32 v))).1 0 5 = 0
      rw [mI_at, upd_ne (by decide)]; exact h3
    | some Y => rw [hI] at h3; exact ⟨by rw [mI_at, upd_ne (by decide)]; exact h3.1, h3.2.fr hf (by omega)⟩
  · unfold TPc at *
    rw [mI_at, upd_ne (by decide), mI_ne (by decide)]; exact h4
  · unfold SDc at *
    rw [mI_at, upd_ne (by decide), mI_ne (by decide)]; exact h6
  · obtain ⟨ch, k1, k2, k3, k4, k5, k6, k7⟩ := h7
    exact ⟨ch, k1, by rw [hf.I 3 (by omega)]; exact k2, k3.fr hf (by omega), k4.fr hf (by omega), k5.fr hf (by omega), k6.fr hf (by omega), k7.fr hf (by omega)⟩
theorem kc_system (hI : Inv s N g) {a : Int} (a1 : -2147483648 ≤ a) (a2 : a ≤ 2147483647) : CA h N g (smR g a).1 (fL_system (M h s) (h + 0) (i32 a) (h + 339)) (smR g a).2.1 (smR g a).2.2 := by
  have hk := hI.2.2.1
  have hT := hI.1.2.2.2.1
  have hb := (smR_b (g := g) (a := a)).2
  unfold fL_system
  unfold smR at hb ⊢
  by_cases c1 : 0 ≤ a ∧ a ≤ g.2.2.2.1.length
  · rw [if_pos c1] at hb ⊢
    obtain ⟨n, rfl⟩ := nat_of c1.1
    have hl := hk.1
    simp only [tn0] at hb ⊢
    obtain ⟨P, eP⟩ : ∃ P, P = g.2.2.2.1.take n := ⟨_, rfl⟩
    have hP : P.length = n := by rw [eP, List.length_take]; omega
    rw [← eP] at hb ⊢
    obtain ⟨pg1, pg2, pg3⟩ := pAll_g (B := P)
    obtain ⟨s1, es1⟩ : ∃ s1, s1 = mI s 0 (upd (s.1 0) 1 0) := ⟨_, rfl⟩
    have f1 : FtC s s1 := by
      rw [es1]
      exact ⟨rfl, fun i x y => by rw [mI_ne x], fun j hj => by rw [mI_at, upd_ne hj]⟩
    have t1 : TPc s1 [] := by
      rw [es1]
      exact ⟨by rw [mI_at, upd_at]; rfl, fun j hj => absurd hj (by show ¬ j < 0; omega)⟩
    have k1 : CV s1 N (g.1, g.2.1, g.2.2.1, [], g.2.2.2.2) := hI.1.tape f1 t1
    have hf1 : Fr 0 0 s s1 := by rw [es1]; exact Fr.rf.mI (by decide) (by decide)
    have r1 : RV s1 g := hI.2.1.cls hf1 (by omega)
    have hRT : RT (mI s1 246 (upd (s1.1 246) 2 (i32 (P.length : Int)))) P := by
      refine ⟨by rw [mI_at, upd_at], fun j hj => ?_, by omega, fun j => by rw [eP]; exact bt_take hk.2.1 j⟩
      rw [mI_ne (by decide), hf1.I 1 (by decide), eP, bt_tk (by omega)]
      exact hT.2 j (by omega)
    obtain ⟨s2, e2, f2, ct2, rs2⟩ := c_readText (h := h) hRT
    rw [hP] at e2
    have k2 : CV s2 N (g.1, g.2.1, g.2.2.1, [], g.2.2.2.2) := k1.work f2 (by omega)
    have r2 : RV s2 g := r1.cls f2 (by omega)
    by_cases c2 : (pAll P).1 = 0
    · rw [if_pos c2] at hb ⊢
      obtain ⟨hS, h6⟩ := pg3 c2
      obtain ⟨s3, es3⟩ : ∃ s3, s3 = mI s2 0 (upd (s2.1 0) 2 (-1)) := ⟨_, rfl⟩
      have k3 : CV s3 N (g.1, g.2.1, g.2.2.1, [], -1, g.2.2.2.2.2) := by
        rw [es3]
        exact k2.fault (v := -1)
      have f3 : Fr 0 0 s2 s3 := by rw [es3]; exact Fr.rf.mI (by decide) (by decide)
      obtain ⟨s4, e4, q4, f4, z4, y4⟩ := c_copyRules (h := h) (s := s3) rb3 rb247 (by omega) hS ((rs2 c2).fr f3 (by omega))
      obtain ⟨s5, e5, f5, p5⟩ := c_emptyPl (h := h) (s := s4)
      obtain ⟨s6, es6⟩ : ∃ s6, s6 = mI s5 24 (upd (s5.1 24) 2 0) := ⟨_, rfl⟩
      have f6 : Fr 24 24 s5 s6 := by rw [es6]; exact Fr.rf.mI (by decide) (by decide)
      have hi : ∀ i, ¬ (3 ≤ i ∧ i ≤ 12) → i ≠ 24 → s6.1 i = s3.1 i ∧ s6.2 i = s3.2 i := fun i x y => ⟨by rw [f6.I i (by omega), f5.I i (by omega), f4.I i (by omega)], by rw [f6.L i (by omega), f5.L i (by omega), f4.L i (by omega)]⟩
      have hA : ACT s6 [] := by rw [es6]; exact ACT.nil ⟨_, (k3.2.1.fr f4 (by omega)).fr f5 (by omega)⟩
      have hX : DX s6 2 (allP (pAll P).2.2 emP) := by
        refine ⟨(q4.fr f5 (by omega)).fr f6 (by omega), PX_all (fun p hp => ?_), allP_VX hS (fun p hp => ⟨by show 0 ≤ 16; omega, fun x hx => by cases hx⟩)⟩
        rw [f6.L 9 (by omega), f6.L 10 (by omega), f6.I 11 (by omega)]
        obtain ⟨b1, b2, b3⟩ := p5 p hp
        exact ⟨by rw [b1]; exact cw_nil.symm, by rw [b2]; exact cw_nil.symm, b3⟩
      have k6 : CV s6 (N + 100) (allP (pAll P).2.2 emP, [], g.2.2.1, [], -1, g.2.2.2.2.2) := k3.desk hi hX hA (by rw [f6.I 3 (by omega), f5.I 3 (by omega)]; exact z4) (by rw [f6.I 3 (by omega), f5.I 3 (by omega)]; exact y4 8 (by decide) (by decide) (by decide))
      have r6 : RV s6 g := (r2.cls f3 (by omega)).cls2 hi
      refine lI0 hb ⟨s6, ?_, k6, r6⟩
      unfold fX11_system
      rw [o_0, sb, c_needBytes hT hk.1 a1 a2, sb, if_pos c1]
      simp only []
      rw [w_0_1, sb, ← es1, g_0_7, sb, o_246, sb, e2, sb]
      unfold fX0_forget
      rw [if_pos (show i32 ((pAll P).1 : Int) = 0 by rw [z32 (by omega)]; exact c2), w_0_2, sb, ← es3, g_0_3, sb, g_2_0, sb, g_0_7, sb, g_246_0, sb, o_3, sb, e4, sb, g_0_3, sb, o_2, sb, e5, sb, g_0_6, sb, o_24, sb, w_24_2, sb, sb, ← es6, g_0_3, sb, g_2_0, sb, g_3_1, sb, hX.1.2.1]
      rfl
    · rw [if_neg c2] at hb ⊢
      have g4 : s2.1 246 4 = i32 ((pAll P).2.1.1 : Int) := ct2.2.2.1
      refine lI0 hb ⟨mI s2 0 (upd (s2.1 0) 2 (i32 ((pAll P).2.1.1 : Int))), ?_, k2.fault.mono (by omega), r2.cls (lo := 0) (hi := 0) (Fr.rf.mI (by decide) (by decide)) (by omega)⟩
      unfold fX11_system
      rw [o_0, sb, c_needBytes hT hk.1 a1 a2, sb, if_pos c1]
      simp only []
      rw [w_0_1, sb, ← es1, g_0_7, sb, o_246, sb, e2, sb]
      rw [if_neg (show ¬ i32 ((pAll P).1 : Int) = 0 by rw [z32 (by omega)]; exact c2), g_0_7, sb, g_246_4, sb, g4, w_0_2, sb, show (-10 : Int32) = i32 (-10) from by decide, s32]
  · rw [if_neg c1]
    refine lI1 (hI.self ?_)
    unfold fX11_system
    rw [o_0, sb, c_needBytes hT hk.1 a1 a2, sb, if_neg c1]
end SY
