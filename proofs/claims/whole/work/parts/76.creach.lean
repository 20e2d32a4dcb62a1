/-! REACH in the class -/
def lpA (L : RLs) (lp : Int) (w : List Nat) (n : Nat) : Int := if 0 < n ∧ lp = -1 ∧ w = (lnk L 0).1 then (n : Int) else lp
/-- what an addition keeps: all but size and loop of the object -/
def RK (s s' : Mm) (r : Nat) : Prop := Fr r (r + 3) s s' ∧ ∀ j, j ≠ 4 → j ≠ 7 → s'.1 r j = s.1 r j
theorem RK.tr {s s' s'' : Mm} {r : Nat} (h1 : RK s s' r) (h2 : RK s' s'' r) : RK s s'' r := ⟨h1.1.tr h2.1, fun j a b => (h2.2 j a b).trans (h1.2 j a b)⟩
theorem RK.rf {s : Mm} {r : Nat} : RK s s r := ⟨Fr.rf, fun _ _ _ => rfl⟩
section HR
variable {h r K : Nat} {s : Mm} {S : Sys} {L : RLs} {sl : Nat → Nat} {w : List Nat}
theorem RC.f (hC : RC s r K L sl) {j : Nat} {v : Int32} (hj : j ≠ 4) : RC (mI s r (upd (s.1 r) j v)) r K L sl := by
  obtain ⟨i1, i2, i3, i4, i5, i6, i7, i8, i9⟩ := hC
  refine ⟨by rw [mI_at, upd_ne (fun e => hj e.symm)]; exact i1, i2, ?_, i4, i5, i6, ?_, i8, i9⟩
  · intro j hj
    rw [mI_ne (by omega)]; exact i3 j hj
  · intro q hq
    rw [mI_ne (by omega)]; exact i7 q hq
theorem lnk_snoc1 {x : List Nat × Nat} {j : Nat} (hj : j < L.length) : lnk (L ++ [x]) j = lnk L j := getD_app1 hj
theorem lnk_snoc2 {x : List Nat × Nat} : lnk (L ++ [x]) L.length = x := getD_app2
theorem lnk_len {x : List Nat × Nat} : (L ++ [x] : RLs).length = L.length + 1 := by rw [List.length_append]; rfl
theorem c_addJ (H : Hr r) (hK : K ≤ 5) (hC : RC s r K L sl) (hw : Wk K w) {n : Nat} (hn : n ≤ L.length) : ∃ (s' : Mm) (sl' : Nat → Nat), fJX6_add_m_28 (M h s) (h + r) (i64 (cw w : Int)) (i32 (n : Int)) = some (M h s') ∧ RC s' r K (ins L (w, n)) sl' ∧ Fr r (r + 3) s s' ∧ ∀ j, j ≠ 4 → s'.1 r j = s.1 r j := by
  obtain ⟨q, hq, e1, e2⟩ := c_slotOf (h := h) H hK hC hw
  obtain ⟨i1, i2, i3, i4, i5, i6, i7, i8, i9⟩ := id hC
  unfold fJX6_add_m_28
  simp only [re_o H, sb, e1, re_s H, ra_s H (show (0 : Int) ≤ (q : Int) by omega) (show (q : Int) < 512 by omega), tn0, i7 q hq]
  have hb := i8.1 q hq
  rcases e2 with ⟨j, j1, j2, j3⟩ | ⟨j1, j2, d, d1, d2, d3⟩
  · rw [if_neg (by rw [j3, q0]; rw [eq32 (by omega) (by omega) (by omega) (by omega)]; omega)]
    have : ins L (w, n) = L := by
      unfold ins
      rw [if_neg]
      rintro ⟨-, hy⟩
      exact hy _ (lnk_mem j1) j2
    rw [this]
    exact ⟨s, sl, rfl, hC, Fr.rf, fun _ _ => rfl⟩
  · rw [if_pos (by rw [j2]; rfl), re_4 H, sb, i1]
    by_cases c : L.length < 200
    · rw [if_neg (by rw [q200]; rw [le32 (by omega) (by omega) (by omega) (by omega)]; omega)]
      have hin : ins L (w, n) = L ++ [(w, n)] := by
        unfold ins
        rw [if_pos]
        refine ⟨c, fun y hy => ?_⟩
        obtain ⟨j, h1, h2⟩ := mem_getD (d := ([], 0)) hy
        have := j1 j h1
        unfold lnk at this
        rw [h2] at this
        exact this
      simp only [re_w H, sb, rs_w H (show (0 : Int) ≤ (L.length : Int) by omega) (show (L.length : Int) < 200 by omega), tn0, re_c H, re_4 H, mL1, i1, rs_c H (show (0 : Int) ≤ (L.length : Int) by omega) (show (L.length : Int) < 200 by omega), mI_ne (show r ≠ r + 2 by omega), q1, a32, rw_4 H, re_s H, mI_at, upd_at, rs_s H (show (0 : Int) ≤ (q : Int) by omega) (show (q : Int) < 512 by omega), mI_ne (show r + 3 ≠ r by omega), mI_ne (show r + 3 ≠ r + 2 by omega)]
      refine ⟨_, fun t => if t = q then L.length + 1 else sl t, rfl, ?_, ?_, ?_⟩
      · rw [hin]
        refine ⟨?_, ?_, ?_, by rw [lnk_len]; omega, ?_, ?_, ?_, ?_, ?_⟩
        · rw [mI_ne (by omega), mI_at, upd_at, lnk_len]; rfl
        · intro j hj
          rw [lnk_len] at hj
          rw [mI2, mI2, mI2, mL_at]
          by_cases cj : j = L.length
          · subst cj
            rw [updL_at, lnk_snoc2]
          · rw [updL_ne cj, lnk_snoc1 (by omega)]
            exact i2 j (by omega)
        · intro j hj
          rw [lnk_len] at hj
          rw [mI_ne (by omega), mI_ne (by omega), mI_at]
          by_cases cj : j = L.length
          · subst cj
            rw [upd_at, lnk_snoc2]
          · rw [upd_ne cj, lnk_snoc1 (by omega)]
            exact i3 j (by omega)
        · intro y hy
          rcases List.mem_append.mp hy with hy | hy
          · exact i5 y hy
          · rw [List.mem_singleton.mp hy]; exact hw
        · intro i j hi hj he
          rw [lnk_len] at hi hj
          by_cases ci : i = L.length
          · by_cases cj : j = L.length
            · omega
            · subst ci
              rw [lnk_snoc2, lnk_snoc1 (by omega)] at he
              exact absurd he.symm (j1 j (by omega))
          · by_cases cj : j = L.length
            · subst cj
              rw [lnk_snoc2, lnk_snoc1 (by omega)] at he
              exact absurd he (j1 i (by omega))
            · rw [lnk_snoc1 (by omega), lnk_snoc1 (by omega)] at he
              exact i6 i j (by omega) (by omega) he
        · intro t ht
          rw [mI_at]
          by_cases ct : t = q
          · subst ct
            rw [upd_at]; simp
          · rw [upd_ne ct, i7 t ht]; simp [ct]
        · refine ⟨?_, ?_, ?_⟩
          · intro t ht
            rw [lnk_len]
            have := i8.1 t ht
            by_cases ct : t = q
            · simp only [ct, if_true]; omega
            · simp only [ct, if_false]; omega
          · intro t t' ht ht' he hne
            by_cases ct : t = q
            · by_cases ct' : t' = q
              · omega
              · simp only [ct, ct', if_true, if_false] at he
                have := i8.1 t' ht'
                omega
            · by_cases ct' : t' = q
              · simp only [ct, ct', if_true, if_false] at he
                have := i8.1 t ht
                omega
              · simp only [ct, ct', if_false] at he hne
                exact i8.2.1 t t' ht ht' he hne
          · intro j hj
            rw [lnk_len] at hj
            by_cases cj : j = L.length
            · subst cj
              rw [lnk_snoc2]
              refine ⟨d, d1, ?_, ?_⟩
              · simp [← d2]
              · intro d' hd'
                have := d3 d' hd'
                by_cases ct : (hsh w + d') % 512 = q
                · simp [ct]
                · simp only [ct, if_false]; exact this
            · rw [lnk_snoc1 (by omega)]
              obtain ⟨d0, z1, z2, z3⟩ := i8.2.2 j (by omega)
              refine ⟨d0, z1, ?_, ?_⟩
              · have hne : ¬ (hsh (lnk L j).1 + d0) % 512 = q := fun e => by
                  rw [e] at z2
                  omega
                simp only [hne, if_false]
                exact z2
              · intro d' hd'
                have := z3 d' hd'
                by_cases ct : (hsh (lnk L j).1 + d') % 512 = q
                · simp [ct]
                · simp only [ct, if_false]; exact this
        · intro j hj
          rw [lnk_len] at hj
          by_cases cj : j = L.length
          · subst cj
            rw [lnk_snoc2]; exact hn
          · rw [lnk_snoc1 (by omega)]
            exact i9 j (by omega)
      · exact (((Fr.rf.mL (by omega) (by omega)).mI (by omega) (by omega)).mI (by omega) (by omega)).mI (by omega) (by omega)
      · intro j hj
        rw [mI_ne (by omega), mI_at, upd_ne hj]
    · rw [if_pos (by rw [q200]; rw [le32 (by omega) (by omega) (by omega) (by omega)]; omega)]
      have : ins L (w, n) = L := by
        unfold ins
        rw [if_neg]
        rintro ⟨hl, -⟩
        exact c hl
      rw [this]
      exact ⟨s, sl, rfl, hC, Fr.rf, fun _ _ => rfl⟩
theorem c_add (H : Hr r) (hK : K ≤ 5) (hC : RC s r K L sl) (hw : Wk K w) {n : Nat} (hn : n ≤ L.length) {lp : Int} (hlp : s.1 r 7 = i32 lp) (hlb : -1 ≤ lp ∧ lp ≤ 1000) : ∃ (s' : Mm) (sl' : Nat → Nat), fX6_add (M h s) (h + r) (i64 (cw w : Int)) (i32 (n : Int)) = some (M h s') ∧ RC s' r K (ins L (w, n)) sl' ∧ RK s s' r ∧ s'.1 r 7 = i32 (lpA L lp w n) := by
  have h4 := hC.2.2.2.1
  unfold fX6_add
  have hno : lpA L lp w n = lp → ∃ (s' : Mm) (sl' : Nat → Nat), fJX6_add_m_28 (M h s) (h + r) (i64 (cw w : Int)) (i32 (n : Int)) = some (M h s') ∧ RC s' r K (ins L (w, n)) sl' ∧ RK s s' r ∧ s'.1 r 7 = i32 (lpA L lp w n) := by
    intro e
    obtain ⟨s', sl', z1, z2, z3, z4⟩ := c_addJ (h := h) H hK hC hw hn
    exact ⟨s', sl', z1, z2, ⟨z3, fun j a _ => z4 j a⟩, by rw [z4 7 (by decide), hlp, e]⟩
  by_cases c0 : n = 0
  · rw [if_pos (by rw [q0]; rw [le32 (by omega) (by omega) (by omega) (by omega)]; omega)]
    exact hno (by unfold lpA; rw [if_neg (by omega)])
  · rw [if_neg (by rw [q0]; rw [le32 (by omega) (by omega) (by omega) (by omega)]; omega), re_7 H, sb, hlp]
    by_cases c1 : lp = -1
    · rw [if_pos (by rw [c1]; decide), re_w H, sb, q0, ra_w H (by omega) (by omega), sb]
      have h0 : 0 < L.length := by omega
      have e0 : s.2 (r + 1) (0 : Int).toNat = i64 (cw (lnk L 0).1 : Int) := hC.2.1 0 h0
      rw [e0]
      by_cases c2 : w = (lnk L 0).1
      · have hl : lpA L lp w n = (n : Int) := by
          unfold lpA; rw [if_pos ⟨by omega, c1, c2⟩]
        rw [if_pos (show lg_cmp _ _ = i32 0 from by rw [← c2]; exact (cmp0 _ _).mpr rfl), rw_7 H, sb]
        obtain ⟨s', sl', z1, z2, z3, z4⟩ := c_addJ (h := h) H hK (hC.f (j := 7) (v := i32 (n : Int)) (by decide)) hw hn
        refine ⟨s', sl', z1, z2, ⟨(Fr.rf.mI (by omega) (by omega)).tr z3, fun j a b => ?_⟩, ?_⟩
        · rw [z4 j a, mI_at, upd_ne b]
        · rw [z4 7 (by decide), mI_at, upd_at, hl]
      · have hl : lpA L lp w n = lp := by
          unfold lpA; rw [if_neg (fun hc => c2 hc.2.2)]
        rw [if_neg (show ¬ lg_cmp _ _ = i32 0 from fun he => c2 (by
          have := (cmp0 _ _).mp he
          rw [cwe (hw.ww hK) ((hC.2.2.2.2.1 _ (lnk_mem h0)).ww hK)] at this
          exact this))]
        exact hno hl
    · rw [if_neg (by rw [qm1]; rw [eq32 (by omega) (by omega) (by omega) (by omega)]; omega)]
      exact hno (by unfold lpA; rw [if_neg (fun hc => c1 hc.2.1)])
end HR
