/-! OVERLAPS in the class: gathered, closed or not -/
theorem ovIn_fold (S : Sys) (i j : Nat) (l : List Nat) : ∀ O : List Ov, l.foldl (fun O t => match lay S i j t with
    | some w => O ++ [(i, j, t, w)]
    | none => O) O = O ++ ovIn S i j l := by
  induction l with
  | nil => intro O; simp [ovIn]
  | cons t l ih =>
    intro O
    rw [List.foldl_cons, ih]
    unfold ovIn
    rw [List.filterMap_cons]
    cases lay S i j t with
    | none => rfl
    | some w => simp
theorem ovIn_len (S : Sys) (i j : Nat) (l : List Nat) : (ovIn S i j l).length ≤ l.length := by
  unfold ovIn
  exact List.length_filterMap_le _ _
theorem rng_len {k n : Nat} : (rng k n).length = n - k := by
  unfold rng; rw [List.length_drop, List.length_range]
theorem ovd_snoc1 {O : List Ov} {o : Ov} {k : Nat} (hk : k < O.length) : ovd (O ++ [o]) k = ovd O k := getD_app1 hk
theorem ovd_snoc2 {O : List Ov} {o : Ov} : ovd (O ++ [o]) O.length = o := getD_app2
theorem ovd_mem {O : List Ov} {k : Nat} (hk : k < O.length) : ovd O k ∈ O := getD_mem hk
section CC
variable {h : Nat} {s : Mm} {S : Sys}
/-- while overlaps are gathered -/
def GI (s : Mm) (S : Sys) (O : List Ov) (s' : Mm) : Prop := Fr 256 259 s s' ∧ OC s' S O ∧ s'.1 256 6 = s.1 3 6
theorem GI.app {O : List Ov} {s' : Mm} (hG : GI s S O s') {o : Ov} (ho : okO S o) (hl : O.length < 2304) : GI s S (O ++ [o]) (mI (mI (mI (mL s' 257 (vp_updL (s'.2 257) O.length (i64 (cw o.2.2.2 : Int)))) 258 (upd (s'.1 258) O.length (i32 (codV o : Int)))) 259 (upd (s'.1 259) O.length 0)) 256 (upd (s'.1 256) 5 (i32 ((O.length : Int) + 1)))) := by
  obtain ⟨g1, ⟨i1, i2, i3, i4, i5, i6⟩, g3⟩ := hG
  have hlen : (O ++ [o]).length = O.length + 1 := by rw [List.length_append]; rfl
  refine ⟨(((g1.mL (by decide) (by decide)).mI (by decide) (by decide)).mI (by decide) (by decide)).mI (by decide) (by decide), ⟨?_, by omega, ?_, ?_, ?_, ?_⟩, ?_⟩
  · rw [mI_at, upd_at, hlen]; rfl
  · intro x hx
    rcases List.mem_append.mp hx with hx | hx
    · exact i3 x hx
    · rw [List.mem_singleton.mp hx]; exact ho
  · intro k hk
    rw [hlen] at hk
    rw [mI2, mI2, mI2, mL_at]
    by_cases c : k = O.length
    · subst c
      rw [updL_at, ovd_snoc2]
    · rw [updL_ne c, ovd_snoc1 (by omega)]
      exact i4 k (by omega)
  · intro k hk
    rw [hlen] at hk
    rw [mI_ne (by decide), mI_ne (by decide), mI_at]
    by_cases c : k = O.length
    · subst c
      rw [upd_at, ovd_snoc2]
    · rw [upd_ne c, ovd_snoc1 (by omega)]
      exact i5 k (by omega)
  · intro k hk
    rw [hlen] at hk
    rw [mI_ne (by decide), mI_at]
    by_cases c : k = O.length
    · subst c
      rw [upd_at]; exact Or.inl rfl
    · rw [upd_ne c, ovd_snoc1 (by omega)]
      exact i6 k (by omega)
  · rw [mI_at, upd_ne (by decide), g3]
theorem c_gatherOf (hS : WfS S) (hR : RS s 3 S) {i j : Nat} (hi : i < nr S) (hj : j < nr S) {O : List Ov} {s' : Mm} (hG : GI s S O s') (hl : O.length ≤ (12 * i + j) * 16) : ∃ s'' : Mm, fX5_gatherOf (M h s') (h + 256) (i32 (i : Int)) (i32 (j : Int)) = some (M h s'') ∧ GI s S (O ++ ovIn S i j (rng (ov0 i j) (rl S i).length)) s'' := by
  have h12 := hS.2.1
  have ha := (wl hS hi).1
  have hR' := hR.fr hG.1 (Or.inl (by decide))
  have hpos : 0 < (rl S i).length := List.length_pos_iff.mpr (hS.2.2.1 i hi).2.2
  have key := loop_from (F := fLX5_gatherOf_25 (h + 256) (i32 (i : Int)) (i32 (j : Int)) (i32 ((rl S i).length : Int))) (E := Empty) (fun (O : List Ov) t => .inl (match lay S i j t with
      | some w => O ++ [(i, j, t, w)]
      | none => O)) (fun O t x => ∃ s' : Mm, x = (i32 (t : Int), M h s') ∧ GI s S O s' ∧ O.length ≤ (12 * i + j) * 16 + t) (fun O y => ∃ s' : Mm, y = M h s' ∧ GI s S O s') (fun e _ => e.elim) (rl S i).length (by
    rintro O t x ht ⟨s1, rfl, hG1, hl1⟩
    have hR1 := hR.fr hG1.1 (Or.inl (by decide))
    unfold fLX5_gatherOf_25
    rw [if_neg (by rw [le32 (by omega) (by omega) (by omega) (by omega)]; omega), g_256_5, sb, hG1.2.1.1, if_neg (by rw [q2304]; rw [le32 (by omega) (by omega) (by omega) (by omega)]; omega), o_256, sb, c_laid hS hR1 hi hj ht, sb]
    cases hla : lay S i j t with
    | none =>
      simp only []
      rw [if_pos (by decide), xlet_eq, q1, a32]
      exact ⟨_, rfl, _, rfl, s1, rfl, hG1, by omega⟩
    | some w =>
      obtain ⟨w1, -, -⟩ := lay_ok hS hi hj ht hla
      have hb := cw_lt (w1.ww hS.1.2)
      simp only []
      rw [if_neg (by rw [cmp0, Qm1, eq64 (by omega) (by omega) (by omega) (by omega)]; omega)]
      simp only [g_256_2, sb, g_256_5, hG1.2.1.1, s_257 (show (0 : Int) ≤ (O.length : Int) by omega) (show (O.length : Int) < 2304 by omega), tn0, g_256_3, mL1, q16, m32, a32, s_258 (show (0 : Int) ≤ (O.length : Int) by omega) (show (O.length : Int) < 2304 by omega), mI_ne (show (256 : Nat) ≠ 258 by decide), g_256_4, s_259 (show (0 : Int) ≤ (O.length : Int) by omega) (show (O.length : Int) < 2304 by omega), mI_ne (show (259 : Nat) ≠ 258 by decide), mI_ne (show (256 : Nat) ≠ 259 by decide), q1, w_256_5, xlet_eq]
      have e9 : (((i : Int) * 16 + (j : Int)) * 16 + (t : Int)) = (codV (i, j, t, w) : Int) := by
        unfold codV; simp
      rw [e9, show vp_nar .byte (0 : Int32) = 0 from by decide]
      exact ⟨_, rfl, _, rfl, _, rfl, hG1.app ⟨hi, hj, ht, hla⟩ (by omega), by rw [List.length_append]; show O.length + 1 ≤ _; omega⟩) (by
    rintro O x ⟨s1, rfl, hG1, hl1⟩
    unfold fLX5_gatherOf_25
    rw [if_pos (by rw [le32 (by omega) (by omega) (by omega) (by omega)]; omega)]
    exact ⟨_, rfl, s1, rfl, hG1⟩) ((rl S i).length - ov0 i j) (ov0 i j) O (i32 (ov0 i j : Int), M h s') (by unfold ov0; split <;> omega) ⟨s', rfl, hG, by omega⟩
  obtain ⟨y, k1, k2⟩ := key
  rw [walk_fold, ovIn_fold] at k2
  obtain ⟨s'', rfl, k3⟩ := k2
  refine ⟨s'', ?_, k3⟩
  unfold fX5_gatherOf fJX5_gatherOf_m_23
  rw [g_256_0, sb, g_3_2, sb, rdl hS hR' hi, sb, c_len (wl hS hi), sb]
  unfold ov0 at k1
  by_cases c : i < j
  · rw [if_pos c] at k1
    rw [if_neg (by rw [le32 (by omega) (by omega) (by omega) (by omega)]; omega), show (0 : Int32) = i32 ((0 : Nat) : Int) from rfl, k1, sb]
  · rw [if_neg c] at k1
    rw [if_pos (by rw [le32 (by omega) (by omega) (by omega) (by omega)]; omega), show (1 : Int32) = i32 ((1 : Nat) : Int) from rfl, k1, sb]
theorem c_gather (hS : WfS S) (hR : RS s 3 S) (hc : s.1 256 6 = s.1 3 6 → OC s S (ovs S)) : ∃ s' : Mm, fX5_gather (M h s) (h + 256) = some (M h s') ∧ Fr 256 259 s s' ∧ OC s' S (ovs S) ∧ s'.1 256 6 = s.1 3 6 := by
  have h12 := hS.2.1
  unfold fX5_gather
  rw [g_256_6, sb, g_256_0, sb, g_3_6, sb]
  by_cases c0 : s.1 256 6 = s.1 3 6
  · rw [if_pos c0]
    exact ⟨s, rfl, Fr.rf, hc c0, c0⟩
  · rw [if_neg c0]
    have hG0 : GI s S [] (mI s 256 (upd (upd (s.1 256) 6 (s.1 3 6)) 5 0)) := ⟨Fr.rf.mI (by decide) (by decide), ⟨by rw [mI_at, upd_at]; rfl, by simp, fun o ho => (by cases ho), fun k hk => absurd hk (by simp), fun k hk => absurd hk (by simp), fun k hk => absurd hk (by simp)⟩, by rw [mI_at, upd_ne (by decide), upd_at]⟩
    obtain ⟨y, k1, k2⟩ := loop_rel (F := fLX5_gather_33 (h + 256)) (E := Empty) (fun (O : List Ov) i => .inl (O ++ (List.range (nr S)).flatMap (fun j => ovIn S i j (rng (ov0 i j) (rl S i).length))))
      (fun O i x => ∃ s' : Mm, x = (i32 (i : Int), M h s') ∧ GI s S O s' ∧ O.length ≤ (12 * i) * 16) (fun O y => ∃ s' : Mm, y = M h s' ∧ GI s S O s') (fun e _ => e.elim) (nr S) (by
        rintro O i x hi ⟨s1, rfl, hG1, hl1⟩
        have hR1 := hR.fr hG1.1 (Or.inl (by decide))
        have hai := (wl hS hi).1
        obtain ⟨y, y1, y2⟩ := loop_rel (F := fLX5_gather_46 (h + 256) (i32 (i : Int))) (E := Empty) (fun (O : List Ov) j => .inl (O ++ ovIn S i j (rng (ov0 i j) (rl S i).length)))
          (fun O j x => ∃ s' : Mm, x = (i32 (j : Int), M h s') ∧ GI s S O s' ∧ O.length ≤ (12 * i + j) * 16) (fun O y => ∃ s' : Mm, y = M h s' ∧ GI s S O s' ∧ O.length ≤ (12 * (i + 1)) * 16) (fun e _ => e.elim) (nr S) (by
            rintro O j x hj ⟨s2, rfl, hG2, hl2⟩
            have hR2 := hR.fr hG2.1 (Or.inl (by decide))
            obtain ⟨s3, z1, z2⟩ := c_gatherOf (h := h) hS hR hi hj hG2 hl2
            have hli := ovIn_len S i j (rng (ov0 i j) (rl S i).length)
            rw [rng_len] at hli
            unfold fLX5_gather_46
            rw [g_256_0, sb, g_3_1, sb, hR2.2.1, if_neg (by rw [le32 (by omega) (by omega) (by omega) (by omega)]; omega), o_256, sb, z1, sb, xlet_eq, q1, a32]
            exact ⟨_, rfl, _, rfl, s3, rfl, z2, by rw [List.length_append]; omega⟩) (by
            rintro O x ⟨s2, rfl, hG2, hl2⟩
            have hR2 := hR.fr hG2.1 (Or.inl (by decide))
            unfold fLX5_gather_46
            rw [g_256_0, sb, g_3_1, sb, hR2.2.1, if_pos (by rw [le32 (by omega) (by omega) (by omega) (by omega)]; omega)]
            exact ⟨_, rfl, s2, rfl, hG2, by omega⟩) (a := O) (x := (0, M h s1)) ⟨s1, rfl, hG1, by omega⟩
        have ef : ∀ (l : List Nat) (O : List Ov), l.foldl (fun (O : List Ov) j => O ++ ovIn S i j (rng (ov0 i j) (rl S i).length)) O = O ++ l.flatMap (fun j => ovIn S i j (rng (ov0 i j) (rl S i).length)) := by
          intro l
          induction l with
          | nil => intro O; simp
          | cons t l ih => intro O; rw [List.foldl_cons, ih, List.flatMap_cons, List.append_assoc]
        rw [walk_fold, ef] at y2
        obtain ⟨s2, rfl, y3, y4⟩ := y2
        unfold fLX5_gather_33
        rw [g_256_0, sb, g_3_1, sb, hR1.2.1, if_neg (by rw [le32 (by omega) (by omega) (by omega) (by omega)]; omega), y1, sb, xlet_eq, q1, a32]
        exact ⟨_, rfl, _, rfl, s2, rfl, y3, y4⟩) (by
        rintro O x ⟨s1, rfl, hG1, hl1⟩
        have hR1 := hR.fr hG1.1 (Or.inl (by decide))
        unfold fLX5_gather_33
        rw [g_256_0, sb, g_3_1, sb, hR1.2.1, if_pos (by rw [le32 (by omega) (by omega) (by omega) (by omega)]; omega)]
        exact ⟨_, rfl, s1, rfl, hG1⟩) (a := []) (x := (0, M h (mI s 256 (upd (upd (s.1 256) 6 (s.1 3 6)) 5 0)))) ⟨_, rfl, hG0, by simp⟩
    have ef : ∀ (l : List Nat) (O : List Ov), l.foldl (fun (O : List Ov) i => O ++ (List.range (nr S)).flatMap (fun j => ovIn S i j (rng (ov0 i j) (rl S i).length))) O = O ++ l.flatMap (fun i => (List.range (nr S)).flatMap (fun j => ovIn S i j (rng (ov0 i j) (rl S i).length))) := by
      intro l
      induction l with
      | nil => intro O; simp
      | cons t l ih => intro O; rw [List.foldl_cons, ih, List.flatMap_cons, List.append_assoc]
    rw [walk_fold, ef, List.nil_append] at k2
    obtain ⟨s', rfl, k3⟩ := k2
    refine ⟨s', ?_, k3.1, k3.2.1, k3.2.2⟩
    simp only [g_256_0, sb, g_3_6, w_256_6, w_256_5, mI_at, mI_mI, k1]
end CC
