/-! OVERLAPS in the reference -/
theorem walk_nthG {X : Type} (k : Int) (l : List X) : ∀ c : Nat, walk (fun (c : Nat) x => if (c : Int) = k then .inr (c, x) else .inl (c + 1)) c l = if k < (c : Int) then .inl (c + l.length) else match l[(k - c).toNat]? with
    | some x => .inr (k.toNat, x)
    | none => .inl (c + l.length) := by
  induction l with
  | nil => intro c; simp [walk]
  | cons y l ih =>
    intro c
    simp only [walk]
    by_cases h1 : (c : Int) = k
    · rw [if_pos h1, if_neg (by omega), show (k - c).toNat = 0 by omega]
      simp only [List.getElem?_cons_zero]
      rw [← h1]; rfl
    · rw [if_neg h1]
      simp only []
      rw [ih]
      by_cases h2 : k < (c : Int)
      · rw [if_pos (by omega), if_pos h2, List.length_cons]
        congr 1; omega
      · rw [if_neg (by omega), if_neg h2, show (k - c).toNat = (k - ((c + 1 : Nat) : Int)).toNat + 1 by omega, List.getElem?_cons_succ, List.length_cons]
        cases l[(k - ((c + 1 : Nat) : Int)).toNat]? with
        | none => simp only []; congr 1; omega
        | some x => rfl
theorem walk_fmap {A E X Y : Type} (g : A → Y → A ⊕ E) (f : X → Option Y) (l : List X) : ∀ a, walk g a (l.filterMap f) = walk (fun a x => match f x with
    | some y => g a y
    | none => .inl a) a l := by
  induction l with
  | nil => intro a; rfl
  | cons x l ih =>
    intro a
    rw [List.filterMap_cons]
    simp only [walk]
    cases f x with
    | none => exact ih a
    | some y =>
      simp only [walk]
      cases g a y with
      | inl a' => exact ih a'
      | inr e => rfl
theorem runF_Wk {S : Sys} (hS : WfS S) {way : Nat} : ∀ (n : Nat) (t : List (List Nat)) (c : List (Nat × Nat)) (w : List Nat), Wk S.1 w → Wk S.1 (runF S way n t c w).2.2.1 := by
  intro n
  induction n with
  | zero => intro t c w hw; exact hw
  | succ n ih =>
    intro t c w hw
    rw [runF]
    cases hc : chs S w way with
    | none => exact hw
    | some x =>
      simp only []
      by_cases c1 : w ∈ t
      · rw [if_pos c1]; exact hw
      · rw [if_neg c1]; exact ih _ _ _ (aft_Wk hS hw (chs_ok hc))
section RF
variable {h : Nat} {s : Mm} {S : Sys}
theorem r_lapped (hS : WfS S) (hR : RR (s.2 309) S) {i j t : Nat} (hi : i < nr S) (hj : j < nr S) (ht : t < (rl S i).length) : fX12_overlapped (M h s) (h + 308) (i32 (i : Int)) (i32 (j : Int)) (i32 (t : Int)) = some (i64 (match lay S i j t with
    | some w => (r6 w : Int)
    | none => -1)) := by
  have ha := wl hS hi
  have hb := wl hS hj
  have h1 := ha.1
  have h2 := hb.1
  have hlay := lay.eq_1 S i j t
  generalize hbo : min ((rl S i).length - t) (rl S j).length = bo at hlay
  unfold fX12_overlapped
  simp only [o_308, sb, r_left hS hR hi, r_left hS hR hj, r_right hS hR hi, r_right hS hR hj, r_len ha, r_len hb, xlet_eq, s32]
  rw [show ((rl S i).length : Int) - (t : Int) = (((rl S i).length - t : Nat) : Int) by omega, imin_of (by omega) (by omega), hbo, r_part ha (by omega), sb, show (0 : Int32) = i32 ((0 : Nat) : Int) from rfl, r_part hb (by omega), sb, List.drop_zero]
  by_cases c1 : ((rl S i).drop t).take bo = (rl S j).take bo
  · rw [if_pos (show lg_cmp _ _ = i32 ((0 : Nat) : Int) from (cmp0 _ _).mpr (by rw [c1])), s32, show ((rl S j).length : Int) - (bo : Int) = (((rl S j).length - bo : Nat) : Int) by omega, a32, q16]
    by_cases c0 : t + (rl S j).length ≤ 16
    · rw [if_pos ⟨c0, c1⟩] at hlay
      have hw : Ww (rl S i ++ (rl S j).drop bo) := ⟨by rw [List.length_append, List.length_drop]; omega, fun x hx => by
        rcases List.mem_append.mp hx with hx | hx
        · exact ha.2 x hx
        · exact hb.2 x (List.mem_of_mem_drop hx)⟩
      have hlw : (rl S i).length ≤ (rl S i ++ (rl S j).drop bo).length := by rw [List.length_append]; omega
      rw [if_pos (by rw [le32 (by omega) (by omega) (by omega) (by omega)]; omega), r_part hb (by omega), sb, List.take_of_length_le (l := (rl S j).drop bo) (by rw [List.length_drop]; omega), r_join ha (hb.drop bo), sb, r_made hw ha (wr hS hi) (by omega), sb]
      have hm1 := mk6_no (u := rl S i) hw (wr hS hi) (show 0 ≤ (rl S i ++ (rl S j).drop bo).length by omega)
      have hm2 := mk6_no (u := rl S j) hw (wr hS hj) (show t ≤ (rl S i ++ (rl S j).drop bo).length by omega)
      by_cases c2 : fitR S (rl S i ++ (rl S j).drop bo) 0 i
      · rw [if_neg (show ¬ lg_cmp _ _ = i32 ((0 : Nat) : Int) from fun e => by rw [show i32 ((0 : Nat) : Int) = 0 from rfl, hm1] at e; exact e c2), r_made hw hb (wr hS hj) (by omega), sb]
        by_cases c3 : fitR S (rl S i ++ (rl S j).drop bo) t j
        · rw [if_pos ⟨c2, c3⟩] at hlay
          rw [if_neg (show ¬ lg_cmp _ _ = i32 ((0 : Nat) : Int) from fun e => by rw [show i32 ((0 : Nat) : Int) = 0 from rfl, hm2] at e; exact e c3), hlay]
        · rw [if_neg (fun e => c3 e.2)] at hlay
          rw [if_pos (show lg_cmp _ _ = i32 ((0 : Nat) : Int) from by rw [show i32 ((0 : Nat) : Int) = 0 from rfl, hm2]; exact c3), hlay]; rfl
      · rw [if_neg (fun e => c2 e.1)] at hlay
        rw [if_pos (show lg_cmp _ _ = i32 ((0 : Nat) : Int) from by rw [show i32 ((0 : Nat) : Int) = 0 from rfl, hm1]; exact c2), hlay]; rfl
    · rw [if_neg (fun e => c0 e.1)] at hlay
      rw [if_neg (by rw [le32 (by omega) (by omega) (by omega) (by omega)]; omega), hlay]; rfl
  · rw [if_neg (fun e => c1 e.2)] at hlay
    rw [if_neg (show ¬ lg_cmp _ _ = i32 ((0 : Nat) : Int) from fun e => c1 (by
      have := (cmp0 _ _).mp e
      rw [r6e ((ha.drop t).take bo) (hb.take bo)] at this
      exact this)), hlay]; rfl
/-- the reference's fields of an overlap -/
def OF (s' : Mm) (o : Ov) : Prop := s'.1 308 28 = i32 (o.1 : Int) ∧ s'.1 308 29 = i32 (o.2.1 : Int) ∧ s'.1 308 30 = i32 (o.2.2.1 : Int) ∧ s'.2 308 31 = i64 (r6 o.2.2.2 : Int)
def RO (s s' : Mm) : Prop := Rf [28, 29, 30, 32] [31] 1 0 s s'
def gN (k : Int) (c : Nat) (o : Ov) : Nat ⊕ (Nat × Ov) := if (c : Int) = k then .inr (c, o) else .inl (c + 1)
theorem gN_nth (k : Int) (l : List Ov) (c : Nat) : walk (gN k) c l = if k < (c : Int) then .inl (c + l.length) else match l[(k - c).toNat]? with
    | some x => .inr (k.toNat, x)
    | none => .inl (c + l.length) := by
  have e := walk_nthG k l c
  have e2 : gN k = (fun (c : Nat) (x : Ov) => if (c : Int) = k then .inr (c, x) else .inl (c + 1)) := by
    funext c x; rfl
  rw [e2, e]
  generalize l[(k - (c : Int)).toNat]? = o
  cases o <;> rfl
theorem gN_le {k : Int} {l : List Ov} {c c' : Nat} (h : walk (gN k) c l = .inl c') : c' ≤ c + l.length := by
  rw [gN_nth] at h
  split at h
  · cases h; omega
  · split at h
    · cases h
    · cases h; omega
theorem r_ovIn (hS : WfS S) (hR : RR (s.2 309) S) {k : Int} (hk : -1 ≤ k ∧ k ≤ 2147483647) {i j : Nat} (hi : i < nr S) (hj : j < nr S) {c : Nat} {s' : Mm} (hF : RO s s') (hc : s'.1 308 32 = i32 (c : Int)) (hl : c ≤ (12 * i + j) * 16) : ∃ y, iterP (fLX12_overlaps_37 (h + 308) (i32 k) (i32 (i : Int)) (i32 (j : Int))) (i32 (ov0 i j : Int), M h s') = some y ∧ outc (fun (c' : Nat) y => ∃ s'' : Mm, y = .inr (M h s'') ∧ RO s s'' ∧ s''.1 308 32 = i32 (c' : Int)) (fun (e : Nat × Ov) y => ∃ s'' : Mm, y = .inl (M h s'') ∧ RO s s'' ∧ OF s'' e.2) (walk (gN k) c (ovIn S i j (rng (ov0 i j) (rl S i).length))) y := by
  have h12 := hS.2.1
  have ha := (wl hS hi).1
  have hpos : 0 < (rl S i).length := List.length_pos_iff.mpr (hS.2.2.1 i hi).2.2
  unfold ovIn
  rw [walk_fmap]
  refine loop_from (F := fLX12_overlaps_37 (h + 308) (i32 k) (i32 (i : Int)) (i32 (j : Int))) _ (fun c t x => ∃ s' : Mm, x = (i32 (t : Int), M h s') ∧ RO s s' ∧ s'.1 308 32 = i32 ((c : Nat) : Int) ∧ c ≤ (12 * i + j) * 16 + t) _ _ (rl S i).length ?_ ?_ ((rl S i).length - ov0 i j) (ov0 i j) c _ (by unfold ov0; split <;> omega) ⟨s', rfl, hF, hc, by omega⟩
  · rintro c t x ht ⟨s1, rfl, hF1, hc1, hl1⟩
    have hR1 : RR (s1.2 309) S := hR.rf hF1 (Or.inr (by decide))
    unfold fLX12_overlaps_37
    simp only [o_308, sb, r_left hS hR1 hi, r_len (wl hS hi)]
    rw [if_neg (by rw [le32 (by omega) (by omega) (by omega) (by omega)]; omega), r_lapped hS hR1 hi hj ht, sb]
    cases hla : lay S i j t with
    | none =>
      simp only [Option.map_none]
      rw [if_pos (by decide), xlet_eq, q1, a32]
      exact ⟨_, rfl, _, rfl, s1, rfl, hF1, hc1, by omega⟩
    | some w =>
      obtain ⟨w1, -, -⟩ := lay_ok hS hi hj ht hla
      have hb := r6_16 (w1.ww hS.1.2)
      simp only [Option.map_some]
      rw [if_neg (by rw [cmp0, Qm1, eq64 (by omega) (by omega) (by omega) (by omega)]; omega)]
      simp only [w_308_28, w_308_29, w_308_30, w_308_31, sb, mI_at, mI_mI, g_308_32, mL1, upd_ne (show (32 : Nat) ≠ 28 by decide), upd_ne (show (32 : Nat) ≠ 29 by decide), upd_ne (show (32 : Nat) ≠ 30 by decide), hc1, mI2]
      have hF2 : RO s (mL (mI s1 308 (upd (upd (upd (s1.1 308) 28 (i32 (i : Int))) 29 (i32 (j : Int))) 30 (i32 (t : Int)))) 308 (vp_updL (s1.2 308) 31 (i64 (r6 w : Int)))) := by
        have := (((Rf.fI (j := 28) (v := i32 (i : Int)) hF1 (by decide)).fI (j := 29) (v := i32 (j : Int)) (by decide)).fI (j := 30) (v := i32 (t : Int)) (by decide)).fL (j := 31) (v := i64 (r6 w : Int)) (by decide)
        simp only [mI_at, mI_mI, mI2] at this
        exact this
      unfold gN
      by_cases c2 : (c : Int) = k
      · rw [if_pos (by rw [c2]), if_pos c2]
        refine ⟨_, rfl, _, rfl, _, rfl, hF2, ?_, ?_, ?_, ?_⟩
        · rw [mL1, mI_at, upd_ne (by decide), upd_ne (by decide), upd_at]
        · rw [mL1, mI_at, upd_ne (by decide), upd_at]
        · rw [mL1, mI_at, upd_at]
        · rw [mL_at, updL_at]
      · rw [if_neg (by rw [eq32 (by omega) (by omega) (by omega) (by omega)]; exact c2), if_neg c2, w_308_32, sb, xlet_eq, q1, a32, a32]
        refine ⟨_, rfl, _, rfl, _, rfl, hF2.fI (by decide), ?_, by omega⟩
        rw [mI_at, upd_at]; rfl
  · rintro c x ⟨s1, rfl, hF1, hc1, hl1⟩
    have hR1 : RR (s1.2 309) S := hR.rf hF1 (Or.inr (by decide))
    unfold fLX12_overlaps_37
    simp only [o_308, sb, r_left hS hR1 hi, r_len (wl hS hi)]
    rw [if_pos (by rw [le32 (by omega) (by omega) (by omega) (by omega)]; omega)]
    exact ⟨_, rfl, s1, rfl, hF1, hc1⟩
theorem r_overlaps (hS : WfS S) (hR : RR (s.2 309) S) {k : Int} (hk : -1 ≤ k ∧ k ≤ 2147483647) : ∃ (s' : Mm) (b : Int32), fX12_overlaps (M h s) (h + 308) (i32 k) = some (b, M h s') ∧ RO s s' ∧ ((∃ o, 0 ≤ k ∧ (ovs S)[k.toNat]? = some o ∧ b = 1 ∧ OF s' o) ∨ ((k < 0 ∨ (ovs S)[k.toNat]? = none) ∧ b = 0 ∧ s'.1 308 32 = i32 ((ovs S).length : Int))) := by
  have h12 := hS.2.1
  have hli : ∀ i j, i < nr S → (ovIn S i j (rng (ov0 i j) (rl S i).length)).length ≤ 16 := fun i j hi => by
    have := ovIn_len S i j (rng (ov0 i j) (rl S i).length)
    rw [rng_len] at this
    have := (wl hS hi).1
    omega
  have hmid : ∀ i, i < nr S → ∀ (c : Nat) (s' : Mm), RO s s' → s'.1 308 32 = i32 (c : Int) → c ≤ (12 * i) * 16 → ∃ y, iterP (fLX12_overlaps_17 (h + 308) (i32 k) (i32 (i : Int))) (0, M h s') = some y ∧ outc (fun c' y => ∃ s'' : Mm, y = .inr (M h s'') ∧ RO s s'' ∧ s''.1 308 32 = i32 ((c' : Nat) : Int) ∧ c' ≤ (12 * (i + 1)) * 16) (fun (e : Nat × Ov) y => ∃ s'' : Mm, y = .inl (M h s'') ∧ RO s s'' ∧ OF s'' e.2) (walk (gN k) c ((List.range (nr S)).flatMap (fun j => ovIn S i j (rng (ov0 i j) (rl S i).length)))) y := by
    intro i hi c s' hF hc hl
    rw [walk_flatMap]
    refine loop_rel (F := fLX12_overlaps_17 (h + 308) (i32 k) (i32 (i : Int))) _ (fun c j x => ∃ s' : Mm, x = (i32 (j : Int), M h s') ∧ RO s s' ∧ s'.1 308 32 = i32 ((c : Nat) : Int) ∧ c ≤ (12 * i + j) * 16) _ _ (nr S) ?_ ?_ ⟨s', rfl, hF, hc, by omega⟩
    · rintro c j x hj ⟨s1, rfl, hF1, hc1, hl1⟩
      obtain ⟨y, y1, y2⟩ := r_ovIn (h := h) hS hR hk hi hj hF1 hc1 hl1
      have hR1 : RR (s1.2 309) S := hR.rf hF1 (Or.inr (by decide))
      unfold fLX12_overlaps_17
      simp only [o_308, sb, r_rules hR1]
      rw [if_neg (by rw [le32 (by omega) (by omega) (by omega) (by omega)]; omega)]
      have hJ : (if i32 (j : Int) ≤ i32 (i : Int) then fJX12_overlaps_17_35 (M h s1) (h + 308) (i32 k) (i32 (i : Int)) (i32 (j : Int)) 1 else fJX12_overlaps_17_35 (M h s1) (h + 308) (i32 k) (i32 (i : Int)) (i32 (j : Int)) 0) = fJX12_overlaps_17_35 (M h s1) (h + 308) (i32 k) (i32 (i : Int)) (i32 (j : Int)) (i32 (ov0 i j : Int)) := by
        unfold ov0
        by_cases c9 : i < j
        · rw [if_neg (by rw [le32 (by omega) (by omega) (by omega) (by omega)]; omega), if_pos c9]; rfl
        · rw [if_pos (by rw [le32 (by omega) (by omega) (by omega) (by omega)]; omega), if_neg c9]; rfl
      rw [hJ]
      unfold fJX12_overlaps_17_35
      rw [y1, sb]
      cases hw : walk (gN k) c (ovIn S i j (rng (ov0 i j) (rl S i).length)) with
      | inl c' =>
        rw [hw] at y2
        obtain ⟨s2, rfl, z1, z2⟩ := y2
        have := gN_le hw
        have := hli i j hi
        simp only []
        rw [xlet_eq, q1, a32]
        exact ⟨_, rfl, _, rfl, s2, rfl, z1, z2, by omega⟩
      | inr e =>
        rw [hw] at y2
        obtain ⟨s2, rfl, z1, z2⟩ := y2
        exact ⟨_, rfl, _, rfl, s2, rfl, z1, z2⟩
    · rintro c x ⟨s1, rfl, hF1, hc1, hl1⟩
      have hR1 : RR (s1.2 309) S := hR.rf hF1 (Or.inr (by decide))
      unfold fLX12_overlaps_17
      simp only [o_308, sb, r_rules hR1]
      rw [if_pos (by rw [le32 (by omega) (by omega) (by omega) (by omega)]; omega)]
      exact ⟨_, rfl, s1, rfl, hF1, hc1, by omega⟩
  obtain ⟨y, k1, k2⟩ := loop_rel (F := fLX12_overlaps_7 (h + 308) (i32 k)) (fun (c : Nat) i => walk (gN k) c ((List.range (nr S)).flatMap (fun j => ovIn S i j (rng (ov0 i j) (rl S i).length)))) (fun c i x => ∃ s' : Mm, x = (i32 (i : Int), M h s') ∧ RO s s' ∧ s'.1 308 32 = i32 (c : Int) ∧ c ≤ (12 * i) * 16)
    (fun c y => ∃ s' : Mm, y = .inr (M h s') ∧ RO s s' ∧ s'.1 308 32 = i32 (c : Int)) (fun (e : Nat × Ov) y => ∃ s'' : Mm, y = .inl (M h s'') ∧ RO s s'' ∧ OF s'' e.2) (nr S) (by
      rintro c i x hi ⟨s1, rfl, hF1, hc1, hl1⟩
      obtain ⟨y, y1, y2⟩ := hmid i hi c s1 hF1 hc1 hl1
      have hR1 : RR (s1.2 309) S := hR.rf hF1 (Or.inr (by decide))
      unfold fLX12_overlaps_7
      simp only [o_308, sb, r_rules hR1]
      rw [if_neg (by rw [le32 (by omega) (by omega) (by omega) (by omega)]; omega), y1, sb]
      cases hw : walk (gN k) c ((List.range (nr S)).flatMap (fun j => ovIn S i j (rng (ov0 i j) (rl S i).length))) with
      | inl c' =>
        rw [hw] at y2
        obtain ⟨s2, rfl, z1, z2, z3⟩ := y2
        simp only []
        rw [xlet_eq, q1, a32]
        exact ⟨_, rfl, _, rfl, s2, rfl, z1, z2, z3⟩
      | inr e =>
        rw [hw] at y2
        obtain ⟨s2, rfl, z1, z2⟩ := y2
        exact ⟨_, rfl, _, rfl, s2, rfl, z1, z2⟩) (by
      rintro c x ⟨s1, rfl, hF1, hc1, hl1⟩
      have hR1 : RR (s1.2 309) S := hR.rf hF1 (Or.inr (by decide))
      unfold fLX12_overlaps_7
      simp only [o_308, sb, r_rules hR1]
      rw [if_pos (by rw [le32 (by omega) (by omega) (by omega) (by omega)]; omega)]
      exact ⟨_, rfl, s1, rfl, hF1, hc1⟩) (a := 0) (x := (0, M h (mI s 308 (upd (s.1 308) 32 0)))) ⟨_, rfl, Rf.rf.fI (by decide), by rw [mI_at, upd_at]; rfl, by omega⟩
  rw [← walk_flatMap, gN_nth] at k2
  unfold fX12_overlaps
  rw [w_308_32, sb, k1, sb]
  have ko : (List.range (nr S)).flatMap (fun i => (List.range (nr S)).flatMap (fun j => ovIn S i j (rng (ov0 i j) (rl S i).length))) = ovs S := rfl
  rw [ko] at k2
  by_cases c0 : k < ((0 : Nat) : Int)
  · rw [if_pos c0] at k2
    obtain ⟨s', rfl, z1, z2⟩ := k2
    exact ⟨s', 0, rfl, z1, Or.inr ⟨Or.inl (by omega), rfl, by rw [z2, Nat.zero_add]⟩⟩
  · rw [if_neg c0, show (k - ((0 : Nat) : Int)).toNat = k.toNat by omega] at k2
    cases hx : (ovs S)[k.toNat]? with
    | none =>
      rw [hx] at k2
      obtain ⟨s', rfl, z1, z2⟩ := k2
      exact ⟨s', 0, rfl, z1, Or.inr ⟨Or.inr rfl, rfl, by rw [z2, Nat.zero_add]⟩⟩
    | some o =>
      rw [hx] at k2
      obtain ⟨s', rfl, z1, z2⟩ := k2
      exact ⟨s', 1, rfl, z1, Or.inl ⟨o, by omega, rfl, rfl, z2⟩⟩
/-- the frame of all that looks at overlaps -/
def RO2 (s s' : Mm) : Prop := Rf [16, 17, 19, 23, 24, 28, 29, 30, 32] [18, 31, 33, 34] 314 316 s s'
theorem RO.to2 {s' : Mm} (h : RO s s') : RO2 s s' := Rf.mono h (by decide) (by decide) (Or.inr (by decide))
theorem r_closes (hS : WfS S) (hR : RR (s.2 309) S) {o : Ov} (ho : okO S o) (hO : OF s o) : ∃ s' : Mm, fX12_closes (M h s) (h + 308) = some (if end1 S o = end2 S o then 1 else 0, M h s') ∧ RO2 s s' ∧ s'.2 308 33 = i64 (r6 (end1 S o) : Int) ∧ s'.2 308 34 = i64 (r6 (end2 S o) : Int) ∧ Wk S.1 (end1 S o) ∧ Wk S.1 (end2 S o) := by
  obtain ⟨w1, w2, w3⟩ := lay_ok hS ho.1 ho.2.1 ho.2.2.1 ho.2.2.2
  have hW := w1.ww hS.1.2
  obtain ⟨o1, o2, o3, o4⟩ := hO
  obtain ⟨s1, p1, p2⟩ := r_runs (h := h) hS hR (aft_Wk hS w1 w2) (way := 0) (by decide)
  have g1 : fX12_made (i64 (r6 o.2.2.2 : Int)) 0 (i64 (r6 (rl S o.1) : Int)) (i64 (r6 (rr S o.1) : Int)) = some (i64 (r6 (aft S o.2.2.2 (0, o.1)) : Int)) := by
    have := r_made hW (wl hS ho.1) (wr hS ho.1) (p := 0) (by omega)
    unfold mk6 at this
    rw [if_pos w2.2.2] at this
    exact this
  have g2 : fX12_made (i64 (r6 o.2.2.2 : Int)) (i32 (o.2.2.1 : Int)) (i64 (r6 (rl S o.2.1) : Int)) (i64 (r6 (rr S o.2.1) : Int)) = some (i64 (r6 (aft S o.2.2.2 (o.2.2.1, o.2.1)) : Int)) := by
    have := r_made hW (wl hS ho.2.1) (wr hS ho.2.1) (p := o.2.2.1) (by have := w3.1; show o.2.2.1 ≤ _; exact Nat.le_of_lt this)
    unfold mk6 at this
    rw [if_pos w3.2.2] at this
    exact this
  have f1 : RO2 s s1 := p2.1.mono (by decide) (by decide) (Or.inl ⟨by decide, by decide⟩)
  have f2 : RO2 s (mL s1 308 (vp_updL (s1.2 308) 33 (i64 (r6 (end1 S o) : Int)))) := f1.fL (by decide)
  have hR2 : RR ((mL s1 308 (vp_updL (s1.2 308) 33 (i64 (r6 (end1 S o) : Int)))).2 309) S := hR.rf f2 (Or.inl (by decide))
  obtain ⟨s3, q1', q2⟩ := r_runs (h := h) hS hR2 (aft_Wk hS w1 w3) (way := 0) (by decide)
  have f3 : RO2 (mL s1 308 (vp_updL (s1.2 308) 33 (i64 (r6 (end1 S o) : Int)))) s3 := q2.1.mono (by decide) (by decide) (Or.inl ⟨by decide, by decide⟩)
  have p1 : fX12_runs (M h s) (h + 308) (i64 (r6 (aft S o.2.2.2 (0, o.1)) : Int)) 0 = some (i64 (r6 (end1 S o) : Int), M h s1) := p1
  have q1' : fX12_runs (M h (mL s1 308 (vp_updL (s1.2 308) 33 (i64 (r6 (end1 S o) : Int))))) (h + 308) (i64 (r6 (aft S o.2.2.2 (o.2.2.1, o.2.1)) : Int)) 0 = some (i64 (r6 (end2 S o) : Int), M h s3) := q1'
  have e31 : (mL s1 308 (vp_updL (s1.2 308) 33 (i64 (r6 (end1 S o) : Int)))).2 308 31 = i64 (r6 o.2.2.2 : Int) := by
    rw [mL_at, updL_ne (by decide), p2.1.2.2 31 (by decide), o4]
  have e30 : (mL s1 308 (vp_updL (s1.2 308) 33 (i64 (r6 (end1 S o) : Int)))).1 308 30 = i32 (o.2.2.1 : Int) := by
    rw [mL1, p2.1.2.1 30 (by decide), o3]
  have e29 : (mL s1 308 (vp_updL (s1.2 308) 33 (i64 (r6 (end1 S o) : Int)))).1 308 29 = i32 (o.2.1 : Int) := by
    rw [mL1, p2.1.2.1 29 (by decide), o2]
  have e33 : s3.2 308 33 = i64 (r6 (end1 S o) : Int) := by
    rw [q2.1.2.2 33 (by decide), mL_at, updL_at]
  have we1 : Wk S.1 (end1 S o) := runF_Wk hS 60 [] [] _ (aft_Wk hS w1 w2)
  have we2 : Wk S.1 (end2 S o) := runF_Wk hS 60 [] [] _ (aft_Wk hS w1 w3)
  refine ⟨mL s3 308 (vp_updL (s3.2 308) 34 (i64 (r6 (end2 S o) : Int))), ?_, (f2.tr f3).fL (by decide), ?_, ?_, we1, we2⟩
  · unfold fX12_closes
    simp only [g_308_31, o4, sb, g_308_28, o1, o_308, r_left hS hR ho.1, r_right hS hR ho.1, g1, p1, w_308_33, e31, g_308_30, e30, g_308_29, e29, r_left hS hR2 ho.2.1, r_right hS hR2 ho.2.1, g2, q1', w_308_34, g_308_33, g_308_34, mL_at, updL_at, updL_ne (show (33 : Nat) ≠ 34 by decide), e33]
    by_cases c : end1 S o = end2 S o
    · rw [if_pos (by rw [cmp0, c]), if_pos c]
    · rw [if_neg (by rw [cmp0, r6e (we1.ww hS.1.2) (we2.ww hS.1.2)]; exact c), if_neg c]
  · rw [mL_at, updL_ne (by decide), e33]
  · rw [mL_at, updL_at]
end RF
