/-! TO TIDY, the loops -/
theorem drpF_wf : ∀ (n : Nat) {S : Sys}, WfS S → WfS (drpF n S).1 ∧ (drpF n S).2 ≤ n ∧ (drpF n S).1.1 = S.1 := by
  intro n
  induction n with
  | zero => intro S hS; exact ⟨hS, Nat.le_refl _, rfl⟩
  | succ n ih =>
    intro S hS
    rw [drpF]
    cases hi : idl S with
    | none => exact ⟨hS, Nat.zero_le _, rfl⟩
    | some r =>
      have hr := (find_some hi).1
      obtain ⟨h1, h2, h3⟩ := ih (dropR_wf hS hr)
      exact ⟨h1, Nat.succ_le_succ h2, h3⟩
theorem idl_0 {S : Sys} (h : nr S = 0) : idl S = none := by
  unfold idl
  rw [h]; rfl
section CC
variable {h : Nat} {s : Mm} {S : Sys}
theorem c_dropLoop : ∀ (n : Nat) (S : Sys) (s : Mm) (g c : Nat), g + n = 12 → nr S ≤ n → WfS S → RS s 3 S → s.1 3 6 = i32 (c : Int) → ∃ s' : Mm, iterP (fLX8_dropCovered_7 (h + 3)) (i32 (g : Int), i32 (natO (idl S)), M h s) = some (i32 ((g + (drpF n S).2 : Nat) : Int), M h s') ∧ RS s' 3 (drpF n S).1 ∧ Fr 3 5 s s' ∧ s'.1 3 6 = i32 ((c + (drpF n S).2 : Nat) : Int) ∧ (∀ j, j ≠ 1 → j ≠ 6 → s'.1 3 j = s.1 3 j) := by
  intro n
  induction n with
  | zero =>
    intro S s g c hg hn hS hR hc
    refine ⟨s, ?_, hR, Fr.rf, hc, fun _ _ _ => rfl⟩
    rw [idl_0 (by omega), iterP_eq]
    unfold fLX8_dropCovered_7
    rw [if_pos (show i32 (natO none) = -1 from by decide)]; rfl
  | succ n ih =>
    intro S s g c hg hn hS hR hc
    rw [drpF]
    cases hi : idl S with
    | none =>
      refine ⟨s, ?_, hR, Fr.rf, hc, fun _ _ _ => rfl⟩
      rw [iterP_eq]
      unfold fLX8_dropCovered_7
      rw [if_pos (show i32 (natO none) = -1 from by decide)]; rfl
    | some r =>
      have hr := (find_some hi).1
      have h12 := hS.2.1
      obtain ⟨s1, z1, z2, z3, z4, z5⟩ := c_drop (h := h) hS hR hr
      have hS1 := dropR_wf hS hr
      obtain ⟨s2, y1, y2, y3, y4, y5⟩ := ih (dropR S r) s1 (g + 1) (c + 1) (by omega) (by rw [dropR_nr hr]; omega) hS1 z2 (by rw [z4, hc, q1, a32]; rfl)
      refine ⟨s2, ?_, y2, z3.tr y3, ?_, fun j h1 h2 => (y5 j h1 h2).trans (z5 j h1 h2)⟩
      · rw [iter_inl (x' := (i32 ((g + 1 : Nat) : Int), i32 (natO (idl (dropR S r))), M h s1)), y1]
        · congr 4
          show g + 1 + (drpF n (dropR S r)).2 = g + ((drpF n (dropR S r)).2 + 1)
          omega
        · unfold fLX8_dropCovered_7
          rw [if_neg (show ¬ i32 (natO (some r)) = -1 from by rw [qm1, show natO (some r) = (r : Int) from rfl]; rw [eq32 (by omega) (by omega) (by omega) (by omega)]; omega), if_neg (by rw [q12]; rw [le32 (by omega) (by omega) (by omega) (by omega)]; omega), o_3, sb, show natO (some r) = (r : Int) from rfl, z1, sb, xlet_eq, o_3, sb, c_covered hS1 z2, sb, q1, a32]; rfl
      · rw [y4]
        congr 2
        show c + 1 + (drpF n (dropR S r)).2 = c + ((drpF n (dropR S r)).2 + 1)
        omega
theorem c_dropCovered (hS : WfS S) (hR : RS s 3 S) {c : Nat} (hc : s.1 3 6 = i32 (c : Int)) : ∃ s' : Mm, fX8_dropCovered (M h s) (h + 3) = some (i32 ((drpF 12 S).2 : Int), M h s') ∧ RS s' 3 (drpF 12 S).1 ∧ Fr 3 5 s s' ∧ s'.1 3 6 = i32 ((c + (drpF 12 S).2 : Nat) : Int) ∧ (∀ j, j ≠ 1 → j ≠ 6 → s'.1 3 j = s.1 3 j) := by
  obtain ⟨s', z1, z2⟩ := c_dropLoop (h := h) 12 S s 0 c rfl hS.2.1 hS hR hc
  refine ⟨s', ?_, z2⟩
  have z1 : iterP _ ((0 : Int32), _, _) = _ := z1
  unfold fX8_dropCovered
  rw [o_3, sb, c_covered hS hR, sb, z1, sb, Nat.zero_add]
theorem c_rights : ∀ (d r : Nat) (S : Sys) (s : Mm) (c : Nat), r + d = nr S → WfS S → RS s 3 S → s.1 3 6 = i32 (c : Int) → ∀ x1 : Int32, ∃ s' : Mm, iterP (fLX11_tidy_49 (h + 0) x1) (i32 (r : Int), M h s) = some (M h s') ∧ RS s' 3 ((rng r (nr S)).foldl (fun S r => setR S r (runS S 0 (rr S r)).2.2.1) S) ∧ (∀ i, ¬ (3 ≤ i ∧ i ≤ 5) → ¬ (253 ≤ i ∧ i ≤ 255) → s'.1 i = s.1 i ∧ s'.2 i = s.2 i) ∧ s'.1 3 6 = i32 ((c + d : Nat) : Int) ∧ (∀ j, j ≠ 6 → s'.1 3 j = s.1 3 j) ∧ WfS ((rng r (nr S)).foldl (fun S r => setR S r (runS S 0 (rr S r)).2.2.1) S) := by
  intro d
  induction d with
  | zero =>
    intro r S s c hr hS hR hc x1
    have hr : r = nr S := by omega
    subst hr
    have h12 := hS.2.1
    rw [rng_end]
    refine ⟨s, ?_, hR, fun _ _ _ => ⟨rfl, rfl⟩, hc, fun _ _ => rfl, hS⟩
    rw [iterP_eq]
    unfold fLX11_tidy_49
    rw [g_0_3, sb, g_2_0, sb, g_3_1, sb, hR.2.1, if_pos (by rw [le32 (by omega) (by omega) (by omega) (by omega)]; omega)]; rfl
  | succ d ih =>
    intro r S s c hr hS hR hc x1
    have h12 := hS.2.1
    have hr' : r < nr S := by omega
    rw [rng_succ hr', List.foldl_cons]
    obtain ⟨s1, z1, z2, z3, -⟩ := c_runFrom (h := h) hS hR (hS.2.2.1 r hr').2.1 (way := 0) (by decide)
    have z1 : fX9_runFrom _ _ _ 0 = _ := z1
    have hR1 := hR.fr z2.1 (Or.inl (by decide))
    obtain ⟨i1, i2, i3, i4, i5, i6⟩ := id hR1
    generalize hv : (runS S 0 (rr S r)).2.2.1 = v at *
    have hRn : RS (mI (mL s1 5 (vp_updL (s1.2 5) r (i64 (cw v : Int)))) 3 (upd (s1.1 3) 6 (s1.1 3 6 + 1))) 3 (setR S r v) := by
      refine ⟨by rw [mI_at, upd_ne (by decide)]; exact i1, by rw [mI_at, upd_ne (by decide), setR_nr]; exact i2, ?_, ?_, ?_, ?_⟩
      · intro k hk
        rw [setR_nr] at hk
        rw [mI2, mL_ne (by decide), (setR_get hr').1]
        exact i3 k hk
      · intro k hk
        rw [setR_nr] at hk
        rw [mI2, mL_at, (setR_get hr').2]
        by_cases ck : k = r
        · subst ck
          rw [updL_at, if_pos rfl]
        · rw [updL_ne ck, if_neg ck]
          exact i4 k hk
      · intro x hx
        rw [mI_ne (by decide)]; exact i5 x hx
      · intro x hx
        rw [mI_ne (by decide)]; exact i6 x hx
    have hcn : (mI (mL s1 5 (vp_updL (s1.2 5) r (i64 (cw v : Int)))) 3 (upd (s1.1 3) 6 (s1.1 3 6 + 1))).1 3 6 = i32 ((c + 1 : Nat) : Int) := by
      rw [mI_at, upd_at, z2.1.I 3 (by decide), hc, q1, a32]; rfl
    obtain ⟨s2, y1, y2, y3, y4, y5, y6⟩ := ih (r + 1) (setR S r v) _ (c + 1) (by rw [setR_nr]; omega) (setR_wf hS hr' z3) hRn hcn x1
    rw [setR_nr] at y2 y6
    refine ⟨s2, ?_, y2, ?_, ?_, ?_, y6⟩
    · rw [iter_inl (x' := (i32 ((r + 1 : Nat) : Int), M h (mI (mL s1 5 (vp_updL (s1.2 5) r (i64 (cw v : Int)))) 3 (upd (s1.1 3) 6 (s1.1 3 6 + 1))))), y1]
      unfold fLX11_tidy_49 fX8_setRight
      rw [g_0_3, sb, g_2_0, sb, g_3_1, sb, hR.2.1, if_neg (by rw [le32 (by omega) (by omega) (by omega) (by omega)]; omega)]
      simp only [g_0_3, g_2_0, g_0_8, g_3_3, sb, rdr hS hR hr', o_253, z1, o_3, s_5 (show (0 : Int) ≤ (r : Int) by omega) (show (r : Int) < 12 by omega), tn0, g_3_6, mL1, w_3_6, xlet_eq, q1, a32]; rfl
    · intro i h1 h2
      have a1 := y3 i h1 h2
      rw [a1.1, a1.2, mI_ne (by omega), mI2, mL_ne (by omega), mL1]
      exact z2.1 i h2
    · rw [y4]
      congr 2
      omega
    · intro j hj
      rw [y5 j hj, mI_at, upd_ne hj, z2.1.I 3 (by decide)]
def rowDrop (f : Nat → Int64) (n r : Nat) : Nat → Int64 := vp_updL (shf (shf f 12 r (n - 1)) 24 r (n - 1)) 1 (i64 ((n : Int) - 1))
theorem rowDrop_hi {f : Nat → Int64} {n r j : Nat} (hn : n ≤ 12) (hj : 36 ≤ j) : rowDrop f n r j = f j := by
  unfold rowDrop shf
  rw [updL_ne (by omega), if_neg (by omega), if_neg (by omega)]
theorem RR.drop {f : Nat → Int64} (hS : WfS S) (hR : RR f S) {r : Nat} (hr : r < nr S) : RR (rowDrop f (nr S) r) (dropR S r) := by
  obtain ⟨i1, i2, i3, i4, i5, i6⟩ := hR
  have h12 := hS.2.1
  have hK := hS.1.2
  unfold rowDrop
  refine ⟨?_, ?_, ?_, ?_, ?_, ?_⟩
  · unfold shf
    rw [updL_ne (by decide), if_neg (by omega), if_neg (by omega)]; exact i1
  · rw [updL_at, dropR_nr hr]
    congr 1
    omega
  · intro x hx
    unfold shf
    rw [updL_ne (by omega), if_neg (by omega), if_neg (by omega)]; exact i3 x hx
  · intro k hk
    have hk : k < S.1 := hk
    obtain ⟨y, y1, y2, y3⟩ := i4 k hk
    refine ⟨y, y1, ?_, y3⟩
    unfold shf
    rw [updL_ne (by omega), if_neg (by omega), if_neg (by omega)]; exact y2
  · intro k hk
    rw [dropR_nr hr] at hk
    rw [(dropR_get hr hk).1, updL_ne (by omega)]
    unfold shf
    rw [if_neg (by omega)]
    by_cases c : k < r
    · rw [if_neg (by omega), if_pos c]; exact i5 k (by omega)
    · rw [if_pos (by omega), if_neg c]; exact i5 (k + 1) (by omega)
  · intro k hk
    rw [dropR_nr hr] at hk
    rw [(dropR_get hr hk).2, updL_ne (by omega)]
    unfold shf
    by_cases c : k < r
    · rw [if_neg (by omega), if_neg (by omega), if_pos c]; exact i6 k (by omega)
    · rw [if_pos (by omega), if_neg (by omega), if_neg c]; exact i6 (k + 1) (by omega)
theorem r_drops (hS : WfS S) (hR : RR (s.2 309) S) {r : Nat} (hr : r < nr S) : fX12_drops (M h s) (h + 308) (i32 (r : Int)) = some (M h (mL s 309 (rowDrop (s.2 309) (nr S) r))) := by
  have h12 := hS.2.1
  have hK := hS.1.2
  have hn : ∀ k, k ≤ nr S - 1 → fX12_rules (M h (mL s 309 (shf (shf (s.2 309) 12 r k) 24 r k))) (h + 308) = some (i32 (nr S : Int)) := by
    intro k hk
    unfold fX12_rules
    rw [g_308_1, sb, q1, a_309 (by decide) (by decide), sb, mL_at]
    show some ((shf (shf (s.2 309) 12 r k) 24 r k 1).toInt32) = _
    unfold shf
    rw [if_neg (by omega), if_neg (by omega), hR.2.1, toI]
  have key : ∀ (d k : Nat), r ≤ k → k + d = nr S - 1 → iterP (fLX12_drops_2 (h + 308)) (i32 (k : Int), M h (mL s 309 (shf (shf (s.2 309) 12 r k) 24 r k))) = some (M h (mL s 309 (shf (shf (s.2 309) 12 r (nr S - 1)) 24 r (nr S - 1)))) := by
    intro d
    induction d with
    | zero =>
      intro k hrk hk
      have hk : k = nr S - 1 := by omega
      rw [iterP_eq]
      unfold fLX12_drops_2
      rw [o_308, sb, hn k (by omega), sb, q1, a32, if_pos (by rw [le32 (by omega) (by omega) (by omega) (by omega)]; omega), hk]; rfl
    | succ d ih =>
      intro k hrk hk
      rw [iter_inl (x' := (i32 ((k + 1 : Nat) : Int), M h (mL s 309 (shf (shf (s.2 309) 12 r (k + 1)) 24 r (k + 1)))))]
      · exact ih (k + 1) (by omega) (by omega)
      · unfold fLX12_drops_2
        rw [o_308, sb, hn k (by omega), sb, q1, a32, if_neg (by rw [le32 (by omega) (by omega) (by omega) (by omega)]; omega)]
        simp only [g_308_1, sb, q12, q24, a32, a_309 (show (0 : Int) ≤ 12 + (k : Int) + 1 by omega) (show 12 + (k : Int) + 1 < 294 by omega), s_309 (show (0 : Int) ≤ 12 + (k : Int) by omega) (show 12 + (k : Int) < 294 by omega), a_309 (show (0 : Int) ≤ 24 + (k : Int) + 1 by omega) (show 24 + (k : Int) + 1 < 294 by omega), s_309 (show (0 : Int) ≤ 24 + (k : Int) by omega) (show 24 + (k : Int) < 294 by omega), show ((12 : Int) + (k : Int)).toNat = 12 + k by omega, show ((24 : Int) + (k : Int)).toNat = 24 + k by omega, show ((12 : Int) + (k : Int) + 1).toNat = 12 + k + 1 by omega, show ((24 : Int) + (k : Int) + 1).toNat = 24 + k + 1 by omega, xlet_eq, mL_at, mL_mL]
        refine congrArg (fun x => some (Sum.inl (i32 ((k : Int) + 1), M h (mL s 309 x)))) ?_
        have hf1 : vp_updL (shf (shf (s.2 309) 12 r k) 24 r k) (12 + k) (shf (shf (s.2 309) 12 r k) 24 r k (12 + k + 1)) = shf (shf (s.2 309) 12 r (k + 1)) 24 r k := by
          funext j
          unfold vp_updL shf
          by_cases c2 : j = 12 + k
          · subst c2
            rw [if_pos rfl, if_neg (by omega), if_neg (by omega), if_neg (by omega), if_pos (by omega)]
          · rw [if_neg c2]
            by_cases c3 : 24 + r ≤ j ∧ j < 24 + k
            · rw [if_pos c3, if_neg (by omega), if_pos c3, if_neg (by omega)]
            · rw [if_neg c3, if_neg c3]
              by_cases c4 : 12 + r ≤ j ∧ j < 12 + k
              · rw [if_pos c4, if_pos (by omega)]
              · rw [if_neg c4, if_neg (by omega)]
        rw [hf1, shf_up _ _ _ _ hrk]
  have key := key (nr S - 1 - r) r (Nat.le_refl _) (by omega)
  have hstart : mL s 309 (shf (shf (s.2 309) 12 r r) 24 r r) = s := by
    rw [shf_0, shf_0]
    unfold mL
    refine Prod.ext rfl ?_
    funext a
    by_cases c5 : a = 309
    · simp [c5]
    · simp [c5]
  rw [hstart] at key
  unfold fX12_drops
  have ea : ∀ σ' : Mm, aL (M h σ') (h + 309) 1 = some (σ'.2 309 1) := fun σ' => by
    have := a_309 (h := h) (s := σ') (e := 1) (by decide) (by decide)
    exact this
  have es : ∀ (σ' : Mm) (w : Int64), sL (M h σ') (h + 309) 1 w = some (M h (mL σ' 309 (vp_updL (σ'.2 309) 1 w))) := fun σ' w => by
    have := s_309 (h := h) (s := σ') (e := 1) (v := w) (by decide) (by decide)
    exact this
  rw [key, sb, g_308_1, sb, ea, sb, es, sb, mL_mL, mL_at]
  have e1 : shf (shf (s.2 309) 12 r (nr S - 1)) 24 r (nr S - 1) 1 = i64 (nr S : Int) := by
    unfold shf
    rw [if_neg (by omega), if_neg (by omega)]; exact hR.2.1
  rw [e1, Q1, s64]; rfl
theorem r_dropLoop : ∀ (n : Nat) (S : Sys) (s : Mm) (g : Nat), nr S ≤ n → g + n ≤ 100 → WfS S → RR (s.2 309) S → ∃ f : Nat → Int64, iterP (fLX12_tidy_29 (h + 308)) (i32 (g : Int), i32 (natO (idl S)), M h s) = some (i32 ((g + (drpF n S).2 : Nat) : Int), M h (mL s 309 f)) ∧ RR f (drpF n S).1 ∧ (∀ j, 36 ≤ j → f j = s.2 309 j) := by
  intro n
  have hid : ∀ s : Mm, mL s 309 (s.2 309) = s := by
    intro s
    unfold mL
    refine Prod.ext rfl ?_
    funext a
    by_cases c5 : a = 309
    · simp [c5]
    · simp [c5]
  have hend : ∀ (S : Sys) (s : Mm) (g : Nat), idl S = none → iterP (fLX12_tidy_29 (h + 308)) (i32 (g : Int), i32 (natO (idl S)), M h s) = some (i32 ((g + 0 : Nat) : Int), M h s) := by
    intro S s g hi
    rw [hi, iterP_eq]
    unfold fLX12_tidy_29
    rw [if_pos (show i32 (natO none) = -1 from by decide)]; rfl
  induction n with
  | zero =>
    intro S s g hn hg hS hR
    refine ⟨s.2 309, ?_, hR, fun _ _ => rfl⟩
    rw [hid, hend S s g (idl_0 (by omega))]; rfl
  | succ n ih =>
    intro S s g hn hg hS hR
    rw [drpF]
    cases hi : idl S with
    | none =>
      refine ⟨s.2 309, ?_, hR, fun _ _ => rfl⟩
      have := hend S s g hi
      rw [hi] at this
      rw [hid, this]
    | some r =>
      have hr := (find_some hi).1
      have h12 := hS.2.1
      have hS1 := dropR_wf hS hr
      have hR1 : RR ((mL s 309 (rowDrop (s.2 309) (nr S) r)).2 309) (dropR S r) := by rw [mL_at]; exact hR.drop hS hr
      obtain ⟨f, y1, y2, y3⟩ := ih (dropR S r) (mL s 309 (rowDrop (s.2 309) (nr S) r)) (g + 1) (by rw [dropR_nr hr]; omega) (by omega) hS1 hR1
      refine ⟨f, ?_, y2, fun j hj => by rw [y3 j hj, mL_at, rowDrop_hi h12 hj]⟩
      rw [iter_inl (x' := (i32 ((g + 1 : Nat) : Int), i32 (natO (idl (dropR S r))), M h (mL s 309 (rowDrop (s.2 309) (nr S) r)))), y1, mL_mL]
      · congr 4
        show g + 1 + (drpF n (dropR S r)).2 = g + ((drpF n (dropR S r)).2 + 1)
        omega
      · unfold fLX12_tidy_29
        rw [if_neg (show ¬ i32 (natO (some r)) = -1 from by rw [qm1, show natO (some r) = (r : Int) from rfl]; rw [eq32 (by omega) (by omega) (by omega) (by omega)]; omega), o_308, sb, show natO (some r) = (r : Int) from rfl, r_drops hS hR hr, sb, xlet_eq, o_308, sb, r_idle hS1 hR1, sb, q1, a32]; rfl
theorem r_rights : ∀ (d r : Nat) (S : Sys) (s : Mm), r + d = nr S → WfS S → RR (s.2 309) S → ∀ x1 : Int32, ∃ (s1 : Mm) (f : Nat → Int64), iterP (fLX12_tidy_52 (h + 308) x1) (i32 (r : Int), M h s) = some (M h (mL s1 309 f)) ∧ Rf [16, 17, 19, 23, 24] [18] 314 316 s s1 ∧ RR f ((rng r (nr S)).foldl (fun S r => setR S r (runS S 0 (rr S r)).2.2.1) S) ∧ (∀ j, 36 ≤ j → f j = s.2 309 j) := by
  intro d
  have hid : ∀ s : Mm, mL s 309 (s.2 309) = s := by
    intro s
    unfold mL
    refine Prod.ext rfl ?_
    funext a
    by_cases c5 : a = 309
    · simp [c5]
    · simp [c5]
  induction d with
  | zero =>
    intro r S s hr hS hR x1
    have hr : r = nr S := by omega
    subst hr
    have h12 := hS.2.1
    rw [rng_end]
    refine ⟨s, s.2 309, ?_, Rf.rf, hR, fun _ _ => rfl⟩
    rw [hid, iterP_eq]
    unfold fLX12_tidy_52
    rw [o_308, sb, r_rules hR, sb, if_pos (by rw [le32 (by omega) (by omega) (by omega) (by omega)]; omega)]; rfl
  | succ d ih =>
    intro r S s hr hS hR x1
    have h12 := hS.2.1
    have hK := hS.1.2
    have hr' : r < nr S := by omega
    rw [rng_succ hr', List.foldl_cons]
    obtain ⟨s1, z1, z2⟩ := r_runs (h := h) hS hR (hS.2.2.1 r hr').2.1 (way := 0) (by decide)
    have z1 : fX12_runs _ _ _ 0 = _ := z1
    have zw : Wk S.1 (runS S 0 (rr S r)).2.2.1 := runF_Wk hS 60 [] [] _ (hS.2.2.1 r hr').2.1
    have hR1 : RR (s1.2 309) S := hR.rf z2.1 (Or.inl (by decide))
    obtain ⟨i1, i2, i3, i4, i5, i6⟩ := id hR1
    generalize hv : (runS S 0 (rr S r)).2.2.1 = v at *
    have hRn : RR ((mL s1 309 (vp_updL (s1.2 309) (24 + r) (i64 (r6 v : Int)))).2 309) (setR S r v) := by
      rw [mL_at]
      refine ⟨by rw [updL_ne (by omega)]; exact i1, by rw [updL_ne (by omega), setR_nr]; exact i2, fun x hx => by rw [updL_ne (by omega)]; exact i3 x hx, fun k hk => ?_, fun k hk => ?_, fun k hk => ?_⟩
      · have hk : k < S.1 := hk
        obtain ⟨y, y1, y2, y3⟩ := i4 k hk
        exact ⟨y, y1, by rw [updL_ne (by omega)]; exact y2, y3⟩
      · rw [setR_nr] at hk
        rw [updL_ne (by omega), (setR_get hr').1]; exact i5 k hk
      · rw [setR_nr] at hk
        rw [(setR_get hr').2]
        by_cases ck : k = r
        · subst ck
          rw [updL_at, if_pos rfl]
        · rw [updL_ne (by omega), if_neg ck]; exact i6 k hk
    obtain ⟨s2, f, y1, y2, y3, y4⟩ := ih (r + 1) (setR S r v) _ (by rw [setR_nr]; omega) (setR_wf hS hr' zw) hRn x1
    rw [setR_nr] at y3
    have hF : Rf [16, 17, 19, 23, 24] [18] 314 316 s (mL s2 309 (s.2 309)) := by
      refine ⟨fun i a b => ?_, fun j hj => ?_, fun j hj => ?_⟩
      · rw [mL1, (y2.1 i a b).1, mL1, (z2.1.1 i a b).1]
        refine ⟨rfl, ?_⟩
        by_cases c9 : i = 309
        · subst c9; rw [mL_at]
        · rw [mL_ne c9, (y2.1 i a b).2, mL_ne c9, (z2.1.1 i a b).2]
      · rw [mL1, y2.2.1 j hj, mL1, z2.1.2.1 j hj]
      · rw [mL_ne (by decide), y2.2.2 j hj, mL_ne (by decide), z2.1.2.2 j hj]
    refine ⟨mL s2 309 (s.2 309), f, ?_, hF, y3, ?_⟩
    · rw [iter_inl (x' := (i32 ((r + 1 : Nat) : Int), M h (mL s1 309 (vp_updL (s1.2 309) (24 + r) (i64 (r6 v : Int)))))), y1, mL_mL]
      unfold fLX12_tidy_52
      rw [o_308, sb, r_rules hR, sb, if_neg (by rw [le32 (by omega) (by omega) (by omega) (by omega)]; omega), g_308_1, sb, sb, r_right hS hR hr', sb, sb, z1, sb, q24, a32, s_309 (by omega) (by omega), sb, xlet_eq, q1, a32, show ((24 : Int) + (r : Int)).toNat = 24 + r by omega]; rfl
    · intro j hj
      rw [y4 j hj, mL_at, updL_ne (by omega), z2.1.L 309 (by decide) (by decide)]
end CC
