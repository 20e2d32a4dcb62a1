/-! the class's runner: a run -/
theorem mI_mI {s : Mm} {i : Nat} {f g : Nat → Int32} : mI (mI s i f) i g = mI s i g := by
  unfold mI
  congr 1
  funext a
  by_cases h : a = i
  · rw [if_pos h, if_pos h]
  · rw [if_neg h, if_neg h]; exact if_neg h
theorem mL_mL {s : Mm} {i : Nat} {f g : Nat → Int64} : mL (mL s i f) i g = mL s i g := by
  unfold mL
  congr 1
  funext a
  by_cases h : a = i
  · rw [if_pos h, if_pos h]
  · rw [if_neg h, if_neg h]; exact if_neg h
theorem upd_upd {f : Nat → Int32} {j : Nat} {v v' : Int32} : upd (upd f j v) j v' = upd f j v' := by
  funext a
  unfold upd
  by_cases h : a = j
  · rw [if_pos h, if_pos h]
  · rw [if_neg h, if_neg h, if_neg h]
theorem mI2 {s : Mm} {i : Nat} {f : Nat → Int32} : (mI s i f).2 = s.2 := rfl
theorem mL1 {s : Mm} {i : Nat} {f : Nat → Int64} : (mL s i f).1 = s.1 := rfl
/-- the runner's cells: words ahead t, steps c, the word w -/
def RunI (K : Nat) (s' : Mm) (t : List (List Nat)) (c : List (Nat × Nat)) (w : List Nat) : Prop :=
  s'.1 253 3 = i32 (t.length : Int) ∧ (∀ j, j < t.length → s'.2 254 j = i64 (cw (t.getD j []) : Int)) ∧ s'.2 254 t.length = i64 (cw w : Int) ∧ c.length = t.length ∧ (∀ j, j < c.length → s'.1 255 j = i32 (cod (c.getD j (0, 0)) : Int)) ∧ Wk K w ∧ ∀ v ∈ t, Wk K v
theorem getD_mem {X : Type} {l : List X} {d : X} {j : Nat} (hj : j < l.length) : l.getD j d ∈ l := by
  rw [List.getD_eq_getElem?_getD, List.getElem?_eq_getElem hj]; exact List.getElem_mem hj
theorem mem_getD {X : Type} {l : List X} {d x : X} (hx : x ∈ l) : ∃ j, j < l.length ∧ l.getD j d = x := by
  obtain ⟨j, hj, e⟩ := List.getElem_of_mem hx
  exact ⟨j, hj, by rw [List.getD_eq_getElem?_getD, List.getElem?_eq_getElem hj]; exact e⟩
theorem getD_app1 {X : Type} {l m : List X} {d : X} {j : Nat} (hj : j < l.length) : (l ++ m).getD j d = l.getD j d := by
  rw [List.getD_eq_getElem?_getD, List.getD_eq_getElem?_getD, List.getElem?_append_left hj]
theorem getD_app2 {X : Type} {l : List X} {d x : X} : (l ++ [x]).getD l.length d = x := by
  rw [List.getD_eq_getElem?_getD, List.getElem?_append_right (Nat.le_refl _), Nat.sub_self]; rfl
section CC
variable {h : Nat} {s : Mm} {S : Sys} {w : List Nat}
theorem c_wasAhead {K : Nat} (hK : K ≤ 5) {t : List (List Nat)} {c : List (Nat × Nat)} (hI : RunI K s t c w) (ht : t.length ≤ 60) : fX9_wasAhead (M h s) (h + 253) = some (if w ∈ t then 1 else 0) := by
  obtain ⟨i1, i2, i3, -, -, i6, i7⟩ := hI
  unfold fX9_wasAhead
  rw [loop_find (fun j => decide (t.getD j [] = w)) (fun j => i32 (j : Int)) (.inr ()) (fun _ => .inl ()) t.length ?_ ?_ (show (0 : Int32) = _ from rfl), sb]
  · cases hf : (List.range t.length).find? (fun j => decide (t.getD j [] = w)) with
    | none =>
      have := find_none hf
      rw [if_neg (fun hm => ?_)]
      obtain ⟨j, hj, e⟩ := mem_getD (d := []) hm
      have := this j hj
      rw [e] at this
      simp at this
    | some j =>
      obtain ⟨h1, h2, -⟩ := find_some hf
      rw [if_pos]
      rw [← of_decide_eq_true h2]; exact getD_mem h1
  · intro j hj
    unfold fLX9_wasAhead_2
    rw [g_253_3, sb, i1, if_neg (by rw [le32 (by omega) (by omega) (by omega) (by omega)]; omega)]
    simp only [g_253_1, sb, a_254 (show (0 : Int) ≤ (j : Int) by omega) (show (j : Int) < 61 by omega), a_254 (show (0 : Int) ≤ (t.length : Int) by omega) (show (t.length : Int) < 61 by omega), tn0, i2 j hj, i3, cmp0, cwe ((i7 _ (getD_mem hj)).ww hK) (i6.ww hK)]
    by_cases c1 : t.getD j [] = w
    · rw [if_pos c1, if_pos (decide_eq_true c1)]
    · rw [if_neg c1, if_neg (by rw [decide_eq_true_eq]; exact c1), xlet_eq, q1, a32]; rfl
  · unfold fLX9_wasAhead_2
    rw [g_253_3, sb, i1, if_pos (by rw [le32 (by omega) (by omega) (by omega) (by omega)]; omega)]
/-- what is left of a run in the cells 253 to 255 -/
def RunO (s s' : Mm) (o : List (List Nat) × List (Nat × Nat) × List Nat × Nat) : Prop :=
  Fr 253 255 s s' ∧ s'.1 253 3 = i32 (o.2.1.length : Int) ∧ s'.1 253 4 = i32 (o.2.2.2 : Int) ∧ (∀ j, j < o.2.1.length → s'.1 255 j = i32 (cod (o.2.1.getD j (0, 0)) : Int))
theorem c_runLoop (hS : WfS S) (hR : RS s 3 S) {way : Nat} (hway : way ≤ 2) : ∀ (n : Nat) (t : List (List Nat)) (c : List (Nat × Nat)) (w : List Nat) (s' : Mm), t.length + n = 60 → Fr 253 255 s s' → RunI S.1 s' t c w →
    ∃ (y : (Int32 × St) ⊕ St) (t' : List (List Nat)) (c' : List (Nat × Nat)) (w' : List Nat) (s'' : Mm), iterP (fLX9_runFrom_12 (h + 253) (i32 (way : Int))) (M h s') = some y ∧ Fr 253 255 s s'' ∧ RunI S.1 s'' t' c' w' ∧ t'.length ≤ 60 ∧
      ((y = .inl (-1, M h s'') ∧ runF S way n t c w = (t', c', w', 0)) ∨ (∃ q : Int32, ¬ q = -1 ∧ y = .inl (q, M h s'') ∧ runF S way n t c w = (t', c', w', 1)) ∨ (y = .inr (M h s'') ∧ t'.length = 60 ∧ runF S way n t c w = runF S way 0 t' c' w')) := by
  intro n
  induction n with
  | zero =>
    intro t c w s' hn hF hI
    refine ⟨.inr (M h s'), t, c, w, s', ?_, hF, hI, by omega, Or.inr (Or.inr ⟨rfl, by omega, rfl⟩)⟩
    rw [iterP_eq]
    unfold fLX9_runFrom_12
    rw [g_253_3, sb, hI.1, if_pos (by rw [q60]; rw [le32 (by omega) (by omega) (by omega) (by omega)]; omega)]; rfl
  | succ n ih =>
    intro t c w s' hn hF hI
    have hR' := hR.fr hF (Or.inl (by decide))
    obtain ⟨i1, i2, i3, i4, i5, i6, i7⟩ := id hI
    have hK := hS.1.2
    have hrd : aL (M h s') (h + 254) (i32 (t.length : Int)) = some (i64 (cw w : Int)) := by
      rw [a_254 (by omega) (by omega), tn0, i3]
    have hbody : fLX9_runFrom_12 (h + 253) (i32 (way : Int)) (M h s') = some (match chs S w way with
        | none => .inr (.inl (-1, M h s'))
        | some x => if w ∈ t then .inr (.inl (i32 (cod x : Int), M h s')) else .inl (M h (mI (mL (mI s' 255 (upd (s'.1 255) t.length (i32 (cod x : Int)))) 254 (vp_updL (s'.2 254) (t.length + 1) (i64 (cw (aft S w x) : Int)))) 253 (upd (s'.1 253) 3 (i32 ((t.length : Int) + 1)))))) := by
      unfold fLX9_runFrom_12
      rw [g_253_3, sb, i1, if_neg (by rw [q60]; rw [le32 (by omega) (by omega) (by omega) (by omega)]; omega)]
      simp only [g_253_1, sb, o_253, hrd, c_choose hS hR' i6 hway]
      cases hc : chs S w way with
      | none =>
        rw [if_pos (by decide)]; rfl
      | some x =>
        have hx := chs_ok hc
        rw [if_neg (by rw [codO_eq (fun y hy => by cases hy; exact hx) hS (i6.ww hK)]; simp)]
        simp only [c_wasAhead hK hI (show t.length ≤ 60 by omega), sb]
        by_cases c1 : w ∈ t
        · rw [if_pos c1, if_neg (by decide), if_pos c1]; rfl
        · rw [if_neg c1, if_pos rfl, if_neg c1]
          have hR1 : RS (mI s' 255 (upd (s'.1 255) t.length (i32 (cod x : Int)))) 3 S := hR'.fr (Fr.rf.mI (lo := 253) (hi := 255) (by decide) (by decide)) (Or.inl (by decide))
          have hrd1 : aL (M h (mI s' 255 (upd (s'.1 255) t.length (i32 (cod x : Int))))) (h + 254) (i32 (t.length : Int)) = some (i64 (cw w : Int)) := by
            rw [a_254 (by omega) (by omega), tn0, mI2, i3]
          simp only [g_253_2, sb, s_255 (show (0 : Int) ≤ (t.length : Int) by omega) (show (t.length : Int) < 60 by omega), tn0, show i32 (codO (some x)) = i32 (cod x : Int) from rfl, g_253_3, g_253_1, g_253_0, mI_ne (show (253 : Nat) ≠ 255 by decide), i1, hrd1, o_3, c_after hS hR1 (i6.ww hK) hx, q1, a32, s_254 (show (0 : Int) ≤ (t.length : Int) + 1 by omega) (show (t.length : Int) + 1 < 61 by omega), tn1, mL1, w_253_3, mI2]
    rw [iterP_eq, hbody, sb]
    cases hc : chs S w way with
    | none =>
      refine ⟨_, t, c, w, s', rfl, hF, hI, by omega, Or.inl ⟨rfl, ?_⟩⟩
      unfold runF
      rw [hc]
    | some x =>
      have hx := chs_ok hc
      by_cases c1 : w ∈ t
      · simp only [c1, if_true]
        refine ⟨_, t, c, w, s', rfl, hF, hI, by omega, Or.inr (Or.inl ⟨_, ?_, rfl, ?_⟩)⟩
        · have := codO_eq (S := S) (w := w) (b := some x) (fun y hy => by cases hy; exact hx) hS (i6.ww hK)
          rw [show i32 (cod x : Int) = i32 (codO (some x)) from rfl, this]; simp
        · unfold runF
          rw [hc]
          simp only [c1, if_true]
      · simp only [c1, if_false]
        have hI2 : RunI S.1 (mI (mL (mI s' 255 (upd (s'.1 255) t.length (i32 (cod x : Int)))) 254 (vp_updL (s'.2 254) (t.length + 1) (i64 (cw (aft S w x) : Int)))) 253 (upd (s'.1 253) 3 (i32 ((t.length : Int) + 1)))) (t ++ [w]) (c ++ [x]) (aft S w x) := by
          refine ⟨?_, ?_, ?_, ?_, ?_, aft_Wk hS i6 hx, ?_⟩
          · rw [mI_at, upd_at, List.length_append]; rfl
          · intro j hj
            rw [mI2, mL_at]
            rw [List.length_append, show [w].length = 1 from rfl] at hj
            by_cases c2 : j = t.length
            · subst c2
              rw [updL_ne (by omega), i3, getD_app2]
            · rw [updL_ne (by omega), i2 j (by omega), getD_app1 (by omega)]
          · rw [mI2, mL_at, List.length_append, show [w].length = 1 from rfl, updL_at]
          · rw [List.length_append, List.length_append, i4]; rfl
          · intro j hj
            rw [mI_ne (by decide), mL1, mI_at]
            rw [List.length_append, show [x].length = 1 from rfl] at hj
            by_cases c2 : j = c.length
            · subst c2
              rw [i4, upd_at, ← i4, getD_app2]
            · rw [upd_ne (by omega), i5 j (by omega), getD_app1 (by omega)]
          · intro v hv
            rcases List.mem_append.mp hv with hv | hv
            · exact i7 v hv
            · rw [List.mem_singleton.mp hv]; exact i6
        obtain ⟨y, t', c', w', s'', e1, e2, e3, e4, e5⟩ := ih (t ++ [w]) (c ++ [x]) (aft S w x) _ (by rw [List.length_append]; show t.length + 1 + n = 60; omega) (((hF.mI (by decide) (by decide)).mL (by decide) (by decide)).mI (by decide) (by decide)) hI2
        have er : runF S way (n + 1) t c w = runF S way n (t ++ [w]) (c ++ [x]) (aft S w x) := by
          rw [runF, hc]
          simp only [c1, if_false]
        refine ⟨y, t', c', w', s'', e1, e2, e3, e4, ?_⟩
        rw [er]
        exact e5
theorem c_runFrom (hS : WfS S) (hR : RS s 3 S) (hw : Wk S.1 w) {way : Nat} (hway : way ≤ 2) : ∃ s' : Mm, fX9_runFrom (M h s) (h + 253) (i64 (cw w : Int)) (i32 (way : Int)) = some (i64 (cw (runS S way w).2.2.1 : Int), M h s') ∧ RunO s s' (runS S way w) ∧ Wk S.1 (runS S way w).2.2.1 ∧ (runS S way w).2.1.length ≤ 60 := by
  have hK := hS.1.2
  unfold fX9_runFrom
  have hI0 : RunI S.1 (mI (mL s 254 (vp_updL (s.2 254) 0 (i64 (cw w : Int)))) 253 (upd (s.1 253) 3 0)) [] [] w := by
    refine ⟨by rw [mI_at, upd_at]; rfl, fun j hj => absurd hj (by simp), by rw [mI2, mL_at]; rfl, rfl, fun j hj => absurd hj (by simp), hw, fun v hv => by cases hv⟩
  have hF0 : Fr 253 255 s (mI (mL s 254 (vp_updL (s.2 254) 0 (i64 (cw w : Int)))) 253 (upd (s.1 253) 3 0)) := (Fr.rf.mL (by decide) (by decide)).mI (by decide) (by decide)
  obtain ⟨y, t', c', w', s'', e1, e2, e3, e4, e5⟩ := c_runLoop (h := h) hS hR hway 60 [] [] w _ rfl hF0 hI0
  have hR' := hR.fr e2 (Or.inl (by decide))
  obtain ⟨i1, i2, i3, i4, i5, i6, i7⟩ := id e3
  have h0 : sL (M h s) (h + 254) 0 (i64 (cw w : Int)) = some (M h (mL s 254 (vp_updL (s.2 254) 0 (i64 (cw w : Int))))) := by
    rw [q0, s_254 (by decide) (by decide)]; rfl
  have hrd : ∀ v, aL (M h (mI s'' 253 (upd (s''.1 253) 4 v))) (h + 254) (i32 (t'.length : Int)) = some (i64 (cw w' : Int)) := by
    intro v
    rw [a_254 (by omega) (by omega), tn0, mI2, i3]
  have hfin : ∀ (o : Nat) (v : Int32), v = i32 (o : Int) → runF S way 60 [] [] w = (t', c', w', o) → ∃ s3 : Mm, ((wrF (M h s'') (h + 253) 9 4 (.int v)).bind fun σ62 => (gR σ62 (h + 253) 9 1).bind fun v66 => (gI σ62 (h + 253) 9 3).bind fun v70 => (aL σ62 v66 v70).bind fun v73 => some (v73, σ62)) = some (i64 (cw (runS S way w).2.2.1 : Int), M h s3) ∧ RunO s s3 (runS S way w) ∧ Wk S.1 (runS S way w).2.2.1 ∧ (runS S way w).2.1.length ≤ 60 := by
    intro o v hv hr
    refine ⟨mI s'' 253 (upd (s''.1 253) 4 v), ?_, ?_, ?_, ?_⟩
    · simp only [w_253_4, sb, g_253_1, g_253_3, mI_at, upd_ne (show (3 : Nat) ≠ 4 by decide), i1, hrd]
      unfold runS
      rw [hr]
    · unfold runS RunO
      rw [hr]
      refine ⟨e2.mI (by decide) (by decide), ?_, ?_, ?_⟩
      · rw [mI_at, upd_ne (by decide), i1]
        show _ = i32 (c'.length : Int)
        rw [i4]
      · rw [mI_at, upd_at, hv]
      · intro j hj
        rw [mI_ne (by decide)]
        exact i5 j hj
    · unfold runS
      rw [hr]; exact i6
    · unfold runS
      rw [hr]; show c'.length ≤ 60; omega
  simp only [g_253_1, sb, h0, w_253_3, mL1, e1]
  rcases e5 with ⟨rfl, hr⟩ | ⟨q, hq, rfl, hr⟩ | ⟨rfl, h60, hr⟩
  · obtain ⟨s3, z1, z2⟩ := hfin 0 0 rfl hr
    refine ⟨s3, ?_, z2⟩
    simp only []
    unfold fJX9_runFrom_m_50
    rw [if_pos rfl]
    exact z1
  · obtain ⟨s3, z1, z2⟩ := hfin 1 1 rfl hr
    refine ⟨s3, ?_, z2⟩
    simp only []
    unfold fJX9_runFrom_m_50
    rw [if_neg hq]
    exact z1
  · have hrd0 : aL (M h s'') (h + 254) (i32 (t'.length : Int)) = some (i64 (cw w' : Int)) := by
      rw [a_254 (by omega) (by omega), tn0, i3]
    simp only [g_253_3, i1, g_253_1, sb, hrd0, o_253, c_choose hS hR' i6 hway]
    rw [runF] at hr
    cases hc : chs S w' way with
    | none =>
      rw [hc] at hr
      obtain ⟨s3, z1, z2⟩ := hfin 0 0 rfl hr
      refine ⟨s3, ?_, z2⟩
      rw [if_pos (by decide)]
      exact z1
    | some x =>
      have hx := chs_ok hc
      rw [hc] at hr
      rw [if_neg (by rw [codO_eq (fun y hy => by cases hy; exact hx) hS (i6.ww hK)]; simp)]
      simp only [c_wasAhead hK e3 e4, sb]
      by_cases c1 : w' ∈ t'
      · simp only [c1, if_true] at hr
        obtain ⟨s3, z1, z2⟩ := hfin 1 1 rfl hr
        refine ⟨s3, ?_, z2⟩
        rw [if_pos c1, if_neg (by decide)]
        exact z1
      · simp only [c1, if_false] at hr
        obtain ⟨s3, z1, z2⟩ := hfin 2 2 rfl hr
        refine ⟨s3, ?_, z2⟩
        rw [if_neg c1, if_pos rfl]
        exact z1
end CC
