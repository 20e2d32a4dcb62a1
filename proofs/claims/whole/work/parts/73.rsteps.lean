/-! THE REFERENCE: steps and runs -/
theorem mk6_no {w u v : List Nat} (hw : Ww w) (hv : Ww v) {p : Nat} (hp : p ≤ w.length) : (lg_cmp (i64 (mk6 w p u v)) (-1) = 0) = ¬ fitsAt w p u v := by
  unfold mk6
  by_cases c : fitsAt w p u v
  · have := r6_16 (repl_Ww hw hv c hp)
    rw [if_pos c, cmp0, Qm1, eq64 (by omega) (by omega) (by omega) (by omega)]
    exact propext ⟨fun h => absurd h (by omega), fun h => absurd c h⟩
  · rw [if_neg c, cmp0, Qm1]
    exact propext ⟨fun _ => c, fun _ => rfl⟩
section RF
variable {h : Nat} {s : Mm} {S : Sys} {w a b : List Nat}
def fst19 (s : Mm) (c : Nat) : Mm := mI s 308 (upd (s.1 308) 19 (i32 (c : Int)))
theorem fst19_up {c : Nat} : mI (fst19 s c) 308 (upd ((fst19 s c).1 308) 19 (i32 ((c : Int) + 1))) = fst19 s (c + 1) := by
  unfold fst19
  rw [mI_mI, mI_at, upd_upd]; rfl
theorem stepsAt_len (hS : WfS S) {p : Nat} : (stepsAt S w p).length ≤ 12 := by
  unfold stepsAt
  rw [List.length_map]
  have := List.length_filter_le (fun r => decide (fitR S w p r)) (List.range (nr S))
  rw [List.length_range] at this
  have := hS.2.1
  omega
theorem r_finds (hS : WfS S) (hR : RR (s.2 309) S) (hw : Ww w) {k : Int} (hk : -1 ≤ k ∧ k ≤ 2147483647) : ∃ (s' : Mm) (b : Int32), fX12_finds (M h s) (h + 308) (i64 (r6 w : Int)) (i32 k) = some (b, M h s') ∧ Rf [16, 17, 19] [18] 1 0 s s' ∧
    ((∃ x, 0 ≤ k ∧ (stps S w)[k.toNat]? = some x ∧ b = 1 ∧ s'.1 308 16 = i32 (x.1 : Int) ∧ s'.1 308 17 = i32 (x.2 : Int) ∧ s'.2 308 18 = i64 (r6 (aft S w x) : Int)) ∨ ((k < 0 ∨ (stps S w)[k.toNat]? = none) ∧ b = 0 ∧ s'.1 308 19 = i32 ((stps S w).length : Int))) := by
  have h12 := hS.2.1
  have h16 := hw.1
  have hin : ∀ (p : Nat), p < w.length → ∀ c : Nat, c ≤ 12 * p → iterP (fLX12_finds_24 (h + 308) (i64 (r6 w : Int)) (i32 k) (i32 (w.length : Int)) (i32 (p : Int))) (0, M h (fst19 s c)) = some (Sum.elim (fun c' => Sum.inr (M h (fst19 s c'))) (fun (e : Nat × Nat × Nat) => Sum.inl (i32 (e.2.2 : Int), i64 (r6 (aft S w e.2) : Int), M h (fst19 s e.1))) (walk (fun (c : Nat) x => if (c : Int) = k then .inr (c, x) else .inl (c + 1)) c (stepsAt S w p))) := by
    intro p hp c hc
    rw [← conv_in]
    refine loop_inv _ (fun c r => c ≤ 12 * p + r) (fun c r => (i32 (r : Int), M h (fst19 s c))) (fun c' => Sum.inr (M h (fst19 s c'))) (fun (e : Nat × Nat × Nat) => Sum.inl (i32 (e.2.2 : Int), i64 (r6 (aft S w e.2) : Int), M h (fst19 s e.1))) (nr S) ?_ ?_ rfl (by omega)
    · intro c r hr hc
      have hRc : RR ((fst19 s c).2 309) S := hR
      constructor
      · unfold fLX12_finds_24
        simp only [o_308, sb, r_rules hRc]
        rw [if_neg (by rw [le32 (by omega) (by omega) (by omega) (by omega)]; omega)]
        simp only [r_left hS hRc hr, r_right hS hRc hr, sb, r_made hw (wl hS hr) (wr hS hr) (show p ≤ w.length by omega), mk6_no (u := rl S r) hw (wr hS hr) (show p ≤ w.length by omega)]
        by_cases c1 : fitR S w p r
        · rw [if_neg (fun hn => hn c1), if_pos c1, g_308_19, sb]
          have e19 : (fst19 s c).1 308 19 = i32 (c : Int) := by unfold fst19; rw [mI_at, upd_at]
          rw [e19]
          by_cases c2 : (c : Int) = k
          · rw [if_pos (by rw [c2]), if_pos c2]
            unfold mk6
            rw [if_pos c1]; rfl
          · rw [if_neg (by rw [eq32 (by omega) (by omega) (by omega) (by omega)]; exact c2), if_neg c2, sb, q1, a32, w_308_19, sb, xlet_eq, a32, fst19_up]; rfl
        · rw [if_pos c1, if_neg c1, xlet_eq, q1, a32]; rfl
      · intro c' hc'
        by_cases c1 : fitR S w p r
        · rw [if_pos c1] at hc'
          by_cases c2 : (c : Int) = k
          · rw [if_pos c2] at hc'; cases hc'
          · rw [if_neg c2] at hc'; cases hc'; omega
        · rw [if_neg c1] at hc'; cases hc'; omega
    · intro c hc
      have hRc : RR ((fst19 s c).2 309) S := hR
      unfold fLX12_finds_24
      simp only [o_308, sb, r_rules hRc]
      rw [if_pos (by rw [le32 (by omega) (by omega) (by omega) (by omega)]; omega)]
  have key := loop_inv (F := fLX12_finds_14 (h + 308) (i64 (r6 w : Int)) (i32 k) (i32 (w.length : Int))) (fun (c : Nat) p => walk (fun (c : Nat) x => if (c : Int) = k then .inr (c, x) else .inl (c + 1)) c (stepsAt S w p)) (fun c p => c ≤ 12 * p)
    (fun c p => (i32 (p : Int), M h (fst19 s c))) (fun c => .inr (M h (fst19 s c))) (fun e => .inl (i32 (e.2.1 : Int), i32 (e.2.2 : Int), i64 (r6 (aft S w e.2) : Int), M h (fst19 s e.1))) w.length ?_ ?_ (a := 0) (x := (0, M h (fst19 s 0))) rfl (Nat.zero_le _)
  · rw [conv_out, walk_nth] at key
    unfold fX12_finds
    rw [w_308_19, sb, r_len hw, sb, show mI s 308 (upd (s.1 308) 19 0) = fst19 s 0 from rfl, key, sb]
    have hRf : ∀ c, Rf [16, 17, 19] [18] 1 0 s (fst19 s c) := fun c => Rf.rf.fI (by decide)
    by_cases c0 : k < ((0 : Nat) : Int)
    · rw [if_pos c0]
      refine ⟨fst19 s (0 + (stps S w).length), 0, rfl, hRf _, Or.inr ⟨Or.inl (by omega), rfl, ?_⟩⟩
      unfold fst19
      rw [mI_at, upd_at, Nat.zero_add]
    · rw [if_neg c0, show (k - ((0 : Nat) : Int)).toNat = k.toNat by omega]
      cases hx : (stps S w)[k.toNat]? with
      | none =>
        refine ⟨fst19 s (0 + (stps S w).length), 0, rfl, hRf _, Or.inr ⟨Or.inr rfl, rfl, ?_⟩⟩
        unfold fst19
        rw [mI_at, upd_at, Nat.zero_add]
      | some x =>
        simp only [Sum.elim_inr, w_308_16, sb, w_308_17, w_308_18]
        refine ⟨_, 1, rfl, (((hRf k.toNat).fI (by decide)).fI (by decide)).fL (by decide), Or.inl ⟨x, by omega, rfl, rfl, ?_, ?_, ?_⟩⟩
        · rw [mL1, mI_at, upd_ne (by decide), mI_at, upd_at]
        · rw [mL1, mI_at, upd_at]
        · rw [mL_at, updL_at]
  · intro c p hp hc
    constructor
    · unfold fLX12_finds_14
      rw [if_neg (by rw [le32 (by omega) (by omega) (by omega) (by omega)]; omega), hin p hp c hc, sb]
      cases hx : walk (fun (c : Nat) x => if (c : Int) = k then .inr (c, x) else .inl (c + 1)) c (stepsAt S w p) with
      | inl c' => simp only [Sum.elim_inl]; rw [xlet_eq, q1, a32]; rfl
      | inr e =>
        have : e.2.1 = p := by
          rw [walk_nth] at hx
          split at hx
          · cases hx
          · split at hx
            · rename_i x hx2
              cases hx
              exact (mem_stepsAt.mp (List.mem_of_getElem? hx2)).1
            · cases hx
        simp only [Sum.elim_inr]
        rw [this]
    · intro c' hc'
      rw [walk_nth] at hc'
      have hl := stepsAt_len (w := w) hS (p := p)
      split at hc'
      · cases hc'; omega
      · split at hc'
        · cases hc'
        · cases hc'; omega
  · intro c hc
    unfold fLX12_finds_14
    rw [if_pos (by rw [le32 (by omega) (by omega) (by omega) (by omega)]; omega)]
theorem RR.rf {I L : List Nat} {lo hi : Nat} {s s' : Mm} (hR : RR (s.2 309) S) (h : Rf I L lo hi s s') (hl : 309 < lo ∨ hi < 309) : RR (s'.2 309) S := by
  rw [h.L 309 (by decide) (by omega)]; exact hR
theorem r_isNormal (hS : WfS S) (hR : RR (s.2 309) S) (hw : Ww w) : ∃ (s' : Mm), fX12_isNormal (M h s) (h + 308) (i64 (r6 w : Int)) = some (if stps S w = [] then 1 else 0, M h s') ∧ Rf [16, 17, 19] [18] 1 0 s s' := by
  obtain ⟨s', b, e1, e2, e3⟩ := r_finds (h := h) (k := 0) hS hR hw (by omega)
  refine ⟨s', ?_, e2⟩
  have e1 : fX12_finds (M h s) (h + 308) (i64 (r6 w : Int)) 0 = some (b, M h s') := e1
  unfold fX12_isNormal
  rw [o_308, sb, e1, sb]
  rcases e3 with ⟨x, -, hx, rfl, -⟩ | ⟨hx, rfl, -⟩
  · rw [if_neg (by show ¬ (1 : Int32) = 0; decide), if_neg (fun hn => by rw [hn] at hx; cases hx)]
  · have : stps S w = [] := by
      rcases hx with hx | hx
      · exact absurd hx (by decide)
      · cases hl : stps S w with
        | nil => rfl
        | cons y l => rw [hl] at hx; cases hx
    rw [if_pos (show (0 : Int32) = 0 from rfl), if_pos this]
theorem r_stepsIn (hS : WfS S) (hR : RR (s.2 309) S) (hw : Ww w) : ∃ (s' : Mm), fX12_stepsIn (M h s) (h + 308) (i64 (r6 w : Int)) = some (i32 ((stps S w).length : Int), M h s') ∧ Rf [16, 17, 19] [18] 1 0 s s' := by
  obtain ⟨s', b, e1, e2, e3⟩ := r_finds (h := h) (k := -1) hS hR hw (by omega)
  refine ⟨s', ?_, e2⟩
  unfold fX12_stepsIn
  rw [o_308, sb, qm1, e1, sb, g_308_19, sb]
  rcases e3 with ⟨x, h0, -⟩ | ⟨-, -, h0⟩
  · exact absurd h0 (by decide)
  · rw [h0]
/-- the walk by way 2, by numbers -/
theorem gch2 {l : List (Nat × Nat)} : ∀ (d k : Nat) (y : Nat × Nat), k + d = l.length → ∃ y', walk (E := Empty) (fun (y : Nat × Nat) k => .inl (if cmpS S (aft S w (l.getD k (0, 0))) (aft S w y) < 0 then l.getD k (0, 0) else y)) y (rng k l.length) = .inl y' ∧ walk (gch S w 2) (some y) (l.drop k) = .inl (some y') := by
  intro d
  induction d with
  | zero =>
    intro k y hk
    have hk : k = l.length := by omega
    subst hk
    refine ⟨y, by rw [rng_end]; rfl, by rw [List.drop_length]; rfl⟩
  | succ d ih =>
    intro k y hk
    obtain ⟨y', h1, h2⟩ := ih (k + 1) (if cmpS S (aft S w (l.getD k (0, 0))) (aft S w y) < 0 then l.getD k (0, 0) else y) (by omega)
    refine ⟨y', by rw [rng_succ (by omega)]; exact h1, ?_⟩
    have hg : l[k] = l.getD k (0, 0) := by rw [List.getD_eq_getElem?_getD, List.getElem?_eq_getElem (by omega)]; rfl
    rw [List.drop_eq_getElem_cons (by omega), hg]
    simp only [walk]
    have : gch S w 2 (some y) (l.getD k (0, 0)) = .inl (some (if cmpS S (aft S w (l.getD k (0, 0))) (aft S w y) < 0 then l.getD k (0, 0) else y)) := by
      unfold gch
      rw [if_neg (by decide)]
      simp only []
      rw [if_neg (by decide)]
      by_cases c : cmpS S (aft S w (l.getD k (0, 0))) (aft S w y) < 0
      · rw [if_pos c, if_pos c]
      · rw [if_neg c, if_neg c]
    rw [this]
    exact h2
theorem gch1 {l : List (Nat × Nat)} : ∀ (y : Nat × Nat), walk (gch S w 1) (some y) l = .inl (some ((y :: l).getLast (by simp))) := by
  induction l with
  | nil => intro y; rfl
  | cons x l ih =>
    intro y
    simp only [walk]
    have : gch S w 1 (some y) x = .inl (some x) := rfl
    rw [this]
    simp only []
    rw [ih x, List.getLast_cons_cons]
theorem chs_cons {way : Nat} {x : Nat × Nat} {l : List (Nat × Nat)} (hl : stps S w = x :: l) (hw : way ≠ 0) : chs S w way = Sum.elim id some (walk (gch S w way) (some x) l) := by
  unfold chs
  rw [hl]
  simp only [walk]
  have : gch S w way none x = .inl (some x) := by
    unfold gch
    rw [if_neg hw]
  rw [this]
theorem chs_0 : chs S w 0 = (stps S w)[0]? := by
  unfold chs
  cases stps S w with
  | nil => rfl
  | cons x l => rfl
theorem chs_none {way : Nat} (hway : way ≤ 2) : chs S w way = none ↔ stps S w = [] := by
  constructor
  · intro hc
    cases hl : stps S w with
    | nil => rfl
    | cons x l =>
      exfalso
      by_cases c0 : way = 0
      · subst c0
        rw [chs_0, hl] at hc
        cases hc
      · rw [chs_cons hl c0] at hc
        by_cases c1 : way = 1
        · subst c1
          rw [gch1] at hc
          cases hc
        · have : way = 2 := by omega
          subst this
          obtain ⟨y', -, h2⟩ := gch2 (S := S) (w := w) (l := l) l.length 0 x (by omega)
          rw [List.drop_zero] at h2
          rw [h2] at hc
          cases hc
  · intro hl
    unfold chs
    rw [hl]; rfl
theorem r_stepBy (hS : WfS S) (hR : RR (s.2 309) S) (hw : Wk S.1 w) {way : Nat} (hway : way ≤ 2) (hn : stps S w ≠ []) : ∃ (s' : Mm) (i : Nat) (x : Nat × Nat), fX12_stepBy (M h s) (h + 308) (i64 (r6 w : Int)) (i32 (way : Int)) = some (i32 (i : Int), M h s') ∧ Rf [16, 17, 19] [18] 1 0 s s' ∧ (stps S w)[i]? = some x ∧ chs S w way = some x := by
  have hW := hw.ww hS.1.2
  have hlen := stps_len hS hW
  obtain ⟨x0, l, hl⟩ := List.exists_cons_of_ne_nil hn
  obtain ⟨s1, e1, e2⟩ := r_stepsIn (h := h) hS hR hW
  unfold fX12_stepBy
  rw [o_308, sb, e1, sb]
  by_cases c2 : way = 2
  · subst c2
    rw [if_pos (by decide)]
    have hR1 := hR.rf e2 (Or.inr (by decide))
    obtain ⟨s2, b, f1, f2, f3⟩ := r_finds (h := h) (k := 0) hS hR1 hW (by omega)
    have hx0 : (stps S w)[0]? = some x0 := by rw [hl]; rfl
    rcases f3 with ⟨x, -, hx, rfl, -, -, hw18⟩ | ⟨hx, -⟩
    · rw [show (0 : Int).toNat = 0 from rfl, hx0] at hx
      cases hx
      simp only [o_308, sb, q0, f1, g_308_18, hw18]
      have key := loop_from (F := fLX12_stepBy_44 (h + 308) (i64 (r6 w : Int)) (i32 ((stps S w).length : Int))) (E := Empty) (fun (y : Nat × Nat) k => .inl (if cmpS S (aft S w ((stps S w).getD k (0, 0))) (aft S w y) < 0 then (stps S w).getD k (0, 0) else y))
        (fun y k x => ∃ (i : Nat) (s' : Mm), x = (i32 (i : Int), i64 (r6 (aft S w y) : Int), i32 (k : Int), M h s') ∧ Rf [16, 17, 19] [18] 1 0 s s' ∧ (stps S w)[i]? = some y) (fun y z => ∃ (i : Nat) (s' : Mm), z = (i32 (i : Int), M h s') ∧ Rf [16, 17, 19] [18] 1 0 s s' ∧ (stps S w)[i]? = some y) (fun e _ => e.elim) (stps S w).length ?_ ?_ (stps S w).length.pred 1 x0 (i32 0, i64 (r6 (aft S w x0) : Int), i32 1, M h s2) (by rw [hl]; simp; omega) ⟨0, s2, rfl, e2.tr f2, hx0⟩
      · obtain ⟨z, k1, k2⟩ := key
        obtain ⟨y', g1, g2⟩ := gch2 (S := S) (w := w) (l := stps S w) ((stps S w).length - 1) 1 x0 (by rw [hl]; simp; omega)
        rw [g1] at k2
        obtain ⟨i, s', rfl, k3, k4⟩ := k2
        rw [q1, k1, sb]
        refine ⟨s', i, y', rfl, k3, k4, ?_⟩
        rw [chs_cons hl (by decide)]
        rw [hl, List.drop_succ_cons, List.drop_zero] at g2
        rw [g2]; rfl
      · rintro y k x hk ⟨i, s', rfl, hRf, hi⟩
        have hR' := hR.rf hRf (Or.inr (by decide))
        obtain ⟨s3, b, z1, z2, z3⟩ := r_finds (h := h) (k := (k : Int)) hS hR' hW (by omega)
        have hgk : (stps S w)[k]? = some ((stps S w).getD k (0, 0)) := by
          rw [List.getD_eq_getElem?_getD, List.getElem?_eq_getElem hk]; rfl
        rcases z3 with ⟨x, -, hx, rfl, -, -, hz⟩ | ⟨hx, -⟩
        · rw [tn0, hgk] at hx
          cases hx
          have hR3 := hR'.rf z2 (Or.inr (by decide))
          have ok1 : okS S w y := mem_stps.mp (List.mem_of_getElem? hi)
          have ok2 : okS S w ((stps S w).getD k (0, 0)) := mem_stps.mp (List.mem_of_getElem? hgk)
          have hc := r_cmp (h := h) hS hR3 (aft_Wk hS hw ok1) (aft_Wk hS hw ok2)
          refine ⟨.inl (if cmpS S (aft S w ((stps S w).getD k (0, 0))) (aft S w y) < 0 then (i32 (k : Int), i64 (r6 (aft S w ((stps S w).getD k (0, 0))) : Int), i32 ((k + 1 : Nat) : Int), M h s3) else (i32 (i : Int), i64 (r6 (aft S w y) : Int), i32 ((k + 1 : Nat) : Int), M h s3)), ?_, ?_⟩
          · unfold fLX12_stepBy_44
            rw [if_neg (by rw [le32 (by omega) (by omega) (by omega) (by omega)]; omega)]
            simp only [o_308, sb, z1, g_308_18, hz, hc]
            rw [cmp_anti hS (aft_Wk hS hw ok1) (aft_Wk hS hw ok2)]
            have hb : cmpS S (aft S w ((stps S w).getD k (0, 0))) (aft S w y) = 1 ∨ cmpS S (aft S w ((stps S w).getD k (0, 0))) (aft S w y) = 0 ∨ cmpS S (aft S w ((stps S w).getD k (0, 0))) (aft S w y) = -1 := by
              unfold cmpS
              split
              · split
                · split
                  · exact Or.inl rfl
                  · exact Or.inr (Or.inr rfl)
                · exact Or.inr (Or.inl rfl)
              · split
                · exact Or.inl rfl
                · exact Or.inr (Or.inr rfl)
            rcases hb with e | e | e
            · rw [e, if_pos (by decide), if_neg (by decide), xlet_eq, q1, a32]; rfl
            · rw [e, if_pos (by decide), if_neg (by decide), xlet_eq, q1, a32]; rfl
            · rw [e, if_neg (by decide), if_pos (by decide), xlet_eq, q1, a32]; rfl
          · refine ⟨_, rfl, ?_⟩
            by_cases c : cmpS S (aft S w ((stps S w).getD k (0, 0))) (aft S w y) < 0
            · rw [if_pos c, if_pos c]
              exact ⟨k, s3, rfl, hRf.tr z2, hgk⟩
            · rw [if_neg c, if_neg c]
              exact ⟨i, s3, rfl, hRf.tr z2, hi⟩
        · rw [tn0, hgk] at hx
          rcases hx with hx | hx
          · omega
          · cases hx
      · rintro y x ⟨i, s', rfl, hRf, hi⟩
        refine ⟨(i32 (i : Int), M h s'), ?_, i, s', rfl, hRf, hi⟩
        unfold fLX12_stepBy_44
        rw [if_pos (by rw [le32 (by omega) (by omega) (by omega) (by omega)]; omega)]
    · rw [show (0 : Int).toNat = 0 from rfl, hx0] at hx
      rcases hx with hx | hx
      · exact absurd hx (by decide)
      · cases hx
  · rw [if_neg (by rw [q2]; rw [le32 (by omega) (by omega) (by omega) (by omega)]; omega)]
    by_cases c0 : way = 0
    · subst c0
      rw [if_pos (show i32 ((0 : Nat) : Int) = 0 from rfl)]
      refine ⟨s1, 0, x0, rfl, e2, by rw [hl]; rfl, by rw [chs_0, hl]; rfl⟩
    · have : way = 1 := by omega
      subst this
      rw [if_neg (by decide), q1, s32]
      have hlast : (stps S w)[(stps S w).length - 1]? = some ((x0 :: l).getLast (by simp)) := by
        rw [hl, List.getElem?_eq_getElem (by simp), List.getLast_eq_getElem]
      refine ⟨s1, (stps S w).length - 1, _, ?_, e2, hlast, ?_⟩
      · have : 1 ≤ (stps S w).length := by rw [hl]; simp
        rw [show (((stps S w).length - 1 : Nat) : Int) = ((stps S w).length : Int) - 1 by omega]
      · rw [chs_cons hl (by decide), gch1]; rfl
end RF
