/-! REACH in the class: following a word's steps, ahead and back; the whole of it -/
def gA (c : Nat) (a : RLs × Int) (v : List Nat) : RLs × Int := (ins a.1 (v, c), lpA a.1 a.2 v c)
theorem gA_adds (c : Nat) (ws : List (List Nat)) : ∀ a : RLs × Int, (ws.foldl (gA c) a).1 = adds a.1 ws c := by
  induction ws with
  | nil => intro a; rfl
  | cons v ws ih => intro a; rw [List.foldl_cons, ih]; rfl
theorem gA_lp (c : Nat) (hc : 0 < c) (ws : List (List Nat)) : ∀ a : RLs × Int, 0 < a.1.length → (ws.foldl (gA c) a).2 = if a.2 = -1 ∧ (lnk a.1 0).1 ∈ ws then (c : Int) else a.2 := by
  induction ws with
  | nil => intro a _; simp
  | cons v ws ih =>
    intro a ha
    have hp := ins_pre a.1 (v, c)
    have hl := List.IsPrefix.length_le hp
    have e0 := pre_lnk hp ha
    rw [List.foldl_cons, ih _ (by unfold gA; exact Nat.lt_of_lt_of_le ha hl)]
    show (if lpA a.1 a.2 v c = -1 ∧ (lnk (ins a.1 (v, c)) 0).1 ∈ ws then (c : Int) else lpA a.1 a.2 v c) = _
    rw [e0]
    simp only [List.mem_cons]
    by_cases c1 : a.2 = -1
    · by_cases c2 : v = (lnk a.1 0).1
      · have e : lpA a.1 a.2 v c = (c : Int) := by unfold lpA; rw [if_pos ⟨hc, c1, c2⟩]
        rw [e, if_neg (fun h => by have := h.1; omega), if_pos ⟨c1, Or.inl c2.symm⟩]
      · have e : lpA a.1 a.2 v c = a.2 := by unfold lpA; rw [if_neg (fun h => c2 h.2.2)]
        rw [e]
        by_cases c3 : (lnk a.1 0).1 ∈ ws
        · rw [if_pos ⟨c1, c3⟩, if_pos ⟨c1, Or.inr c3⟩]
        · rw [if_neg (fun h => c3 h.2), if_neg (fun h => by rcases h.2 with e | e; exact c2 e.symm; exact c3 e)]
    · have e : lpA a.1 a.2 v c = a.2 := by unfold lpA; rw [if_neg (fun h => c1 h.2.1)]
      rw [e, if_neg (fun h => c1 h.1), if_neg (fun h => c1 h.1)]
theorem bkw_Wk {S : Sys} (hS : WfS S) {w : List Nat} (hw : Wk S.1 w) {x : Nat × Nat} (h1 : x.1 ≤ w.length) (h2 : x.2 < nr S) (h3 : fitB S w x.1 x.2) : Wk S.1 (bkw S w x) := by
  refine ⟨by unfold bkw; rw [repl_len h3 h1]; have := h3.2; omega, fun y hy => ?_⟩
  unfold bkw repl at hy
  rcases List.mem_append.mp hy with hy | hy
  · rcases List.mem_append.mp hy with hy | hy
    · exact hw.2 y (List.mem_of_mem_take hy)
    · exact (hS.2.2.1 x.2 h2).1.2 y hy
  · exact hw.2 y (List.mem_of_mem_drop hy)
theorem convB_in {A E : Type} (S : Sys) (w : List Nat) (p : Nat) (g : A → Nat × Nat → A ⊕ E) (a : A) : walk (fun a r => if fitB S w p r then g a (p, r) else .inl a) a (List.range (nr S)) = walk g a (bksAt S w p) := by
  unfold bksAt
  rw [walk_map, walk_filter]
theorem convB_out {A E : Type} (S : Sys) (w : List Nat) (g : A → Nat × Nat → A ⊕ E) (a : A) : walk (fun a p => walk g a (bksAt S w p)) a (List.range (w.length + 1)) = walk g a (bks S w) := by
  unfold bks
  rw [walk_flatMap]
section HR
variable {h r : Nat} {s : Mm} {S : Sys} {L : RLs} {sl : Nat → Nat} {w : List Nat}
/-- while a word's steps are followed: what the memory holds of the row and the loop so far -/
def FW (s : Mm) (r K : Nat) (L : RLs) (a : RLs × Int) (s' : Mm) : Prop := ∃ sl' : Nat → Nat, RK s s' r ∧ RC s' r K a.1 sl' ∧ s'.1 r 7 = i32 a.2 ∧ (-1 ≤ a.2 ∧ a.2 ≤ 1000) ∧ L <+: a.1
theorem FW.step (H : Hr r) (hK : S.1 ≤ 5) {k : Nat} (hk : k < L.length) (hL : (lnk L k).2 ≤ k) {a : RLs × Int} {s' : Mm} (hF : FW s r S.1 L a s') {v : List Nat} (hv : Wk S.1 v) : ∃ s'' : Mm, fX6_add (M h s') (h + r) (i64 (cw v : Int)) (i32 (((lnk L k).2 : Int) + 1)) = some (M h s'') ∧ FW s r S.1 L (gA ((lnk L k).2 + 1) a v) s'' := by
  obtain ⟨sl', h1, h2, h3, h4, h5⟩ := hF
  have hl := List.IsPrefix.length_le h5
  have h200 := h2.2.2.2.1
  obtain ⟨s'', sl'', z1, z2, z3, z4⟩ := c_add (h := h) H hK h2 hv (n := (lnk L k).2 + 1) (by omega) h3 h4
  refine ⟨s'', z1, sl'', h1.tr z3, z2, z4, ?_, List.IsPrefix.trans h5 (ins_pre _ _)⟩
  show -1 ≤ lpA a.1 a.2 v ((lnk L k).2 + 1) ∧ lpA a.1 a.2 v ((lnk L k).2 + 1) ≤ 1000
  unfold lpA
  split
  · omega
  · exact h4
theorem c_follow (hS : WfS S) (hR : RS s 3 S) (H : Hr r) (hC : RC s r S.1 L sl) {k : Nat} (hk : k < L.length) {lp : Int} (hlp : s.1 r 7 = i32 lp) (hlb : -1 ≤ lp ∧ lp ≤ 1000) :
    ∃ s' : Mm, fX6_follow (M h s) (h + r) (i32 (k : Int)) = some (i32 ((stps S (lnk L k).1).length : Int), M h s') ∧ FW s r S.1 L (((stps S (lnk L k).1).map (aft S (lnk L k).1)).foldl (gA ((lnk L k).2 + 1)) (L, lp)) s' := by
  have h12 := hS.2.1
  have hK := hS.1.2
  have h10 := H.2.1
  have hwk := hC.2.2.2.2.1 _ (lnk_mem hk)
  have h9 := hC.2.2.2.2.2.2.2.2 k hk
  have h200 := hC.2.2.2.1
  generalize hw' : (lnk L k).1 = w at *
  have hW := hwk.ww hK
  have h16 := hW.1
  have hbody : ∀ (a : RLs × Int) (s' : Mm), FW s r S.1 L a s' → RS s' 3 S ∧ s'.1 (r + 2) k = i32 ((lnk L k).2 : Int) := by
    intro a s' hF
    obtain ⟨sl', h1, h2, h3, h4, h5⟩ := hF
    have hl := List.IsPrefix.length_le h5
    exact ⟨hR.fr h1.1 (Or.inl (by omega)), by rw [h2.2.2.1 k (by omega), pre_lnk h5 hk]⟩
  have hin : ∀ (p : Nat), p < w.length → ∀ (a : (RLs × Int) × Nat) (s' : Mm), FW s r S.1 L a.1 s' → ∃ y, iterP (fLX6_follow_25 (h + r) (i32 (k : Int)) (i64 (cw w : Int)) (i32 (p : Int))) (i32 (a.2 : Int), 0, M h s') = some y ∧ outc (E := Empty) (fun (a' : (RLs × Int) × Nat) y => ∃ s'' : Mm, y = (i32 (a'.2 : Int), M h s'') ∧ FW s r S.1 L a'.1 s'') (fun e _ => e.elim) (walk (fun a x => .inl (gA ((lnk L k).2 + 1) a.1 (aft S w x), a.2 + 1)) a (stepsAt S w p)) y := by
    intro p hp a s' hF
    rw [← conv_in]
    refine loop_rel _ (fun a r' x => ∃ s'' : Mm, x = (i32 ((a : (RLs × Int) × Nat).2 : Int), i32 (r' : Int), M h s'') ∧ FW s r S.1 L a.1 s'') _ _ (nr S) ?_ ?_ ⟨s', rfl, hF⟩
    · rintro a r' x hr' ⟨s1, rfl, hF1⟩
      obtain ⟨hR1, hcm⟩ := hbody a.1 s1 hF1
      unfold fLX6_follow_25
      simp only [re_r H, sb, g_3_1, hR1.2.1]
      rw [if_neg (by rw [le32 (by omega) (by omega) (by omega) (by omega)]; omega)]
      simp only [g_3_2, g_3_3, sb, rdl hS hR1 hr', rdr hS hR1 hr', c_fits hW (wl hS hr') (wr hS hr') (show p ≤ 16 by omega)]
      by_cases c1 : fitR S w p r'
      · have hx : okS S w (p, r') := ⟨hp, hr', c1⟩
        obtain ⟨s2, z1, z2⟩ := FW.step (h := h) H hK hk h9 hF1 (aft_Wk hS hwk hx)
        rw [if_pos c1, if_neg (by decide), c_repl hW (wl hS hr') (wr hS hr') c1 (by omega)]
        simp only [sb, re_c H, ra_c H (show (0 : Int) ≤ (k : Int) by omega) (show (k : Int) < 200 by omega), tn0, hcm, re_o H, q1, a32, xlet_eq]
        rw [show repl w p (rl S r') (rr S r') = aft S w (p, r') from rfl, z1, sb]
        refine ⟨_, rfl, ?_⟩
        rw [if_pos c1]
        exact ⟨_, rfl, s2, rfl, z2⟩
      · rw [if_neg c1, if_pos rfl, xlet_eq, q1, a32]
        refine ⟨_, rfl, ?_⟩
        rw [if_neg c1]
        exact ⟨_, rfl, s1, rfl, hF1⟩
    · rintro a x ⟨s1, rfl, hF1⟩
      obtain ⟨hR1, hcm⟩ := hbody a.1 s1 hF1
      unfold fLX6_follow_25
      simp only [re_r H, sb, g_3_1, hR1.2.1]
      rw [if_pos (by rw [le32 (by omega) (by omega) (by omega) (by omega)]; omega)]
      exact ⟨_, rfl, s1, rfl, hF1⟩
  have key := loop_rel (F := fLX6_follow_13 (h + r) (i32 (k : Int)) (i64 (cw w : Int))) (E := Empty) (fun (a : (RLs × Int) × Nat) p => walk (fun a x => .inl (gA ((lnk L k).2 + 1) a.1 (aft S w x), a.2 + 1)) a (stepsAt S w p))
    (fun a p x => ∃ s' : Mm, x = (i32 (a.2 : Int), i32 (p : Int), M h s') ∧ FW s r S.1 L a.1 s') (fun a y => ∃ s' : Mm, y = (i32 (a.2 : Int), M h s') ∧ FW s r S.1 L a.1 s') (fun e _ => e.elim) w.length ?_ ?_ (a := ((L, lp), 0)) (x := (0, 0, M h s)) ⟨s, rfl, sl, RK.rf, hC, hlp, hlb, List.prefix_refl L⟩
  · obtain ⟨y, k1, k2⟩ := key
    rw [conv_out, walk_fold] at k2
    obtain ⟨s', rfl, k3⟩ := k2
    refine ⟨s', ?_, ?_⟩
    · unfold fX6_follow
      rw [re_w H, sb, ra_w H (by omega) (by omega), tn0, sb, hC.2.1 k hk, hw', k1, sb]
      have e : ∀ (l : List (Nat × Nat)) (a : (RLs × Int) × Nat), (l.foldl (fun a x => (gA ((lnk L k).2 + 1) a.1 (aft S w x), a.2 + 1)) a).2 = a.2 + l.length := by
        intro l
        induction l with
        | nil => intro a; rfl
        | cons x l ih => intro a; rw [List.foldl_cons, ih, List.length_cons]; show a.2 + 1 + l.length = _; omega
      rw [e, Nat.zero_add]
    · have e : ∀ (l : List (Nat × Nat)) (a : (RLs × Int) × Nat), (l.foldl (fun a x => (gA ((lnk L k).2 + 1) a.1 (aft S w x), a.2 + 1)) a).1 = (l.map (aft S w)).foldl (gA ((lnk L k).2 + 1)) a.1 := by
        intro l
        induction l with
        | nil => intro a; rfl
        | cons x l ih => intro a; rw [List.foldl_cons, ih, List.map_cons, List.foldl_cons]
      rw [e] at k3
      exact k3
  · rintro a p x hp ⟨s', rfl, hF⟩
    obtain ⟨y, y1, y2⟩ := hin p hp a s' hF
    unfold fLX6_follow_13
    rw [c_len hW, sb, if_neg (by rw [le32 (by omega) (by omega) (by omega) (by omega)]; omega), y1, sb, xlet_eq, q1, a32]
    refine ⟨_, rfl, ?_⟩
    rw [walk_fold] at y2 ⊢
    obtain ⟨s'', rfl, h3⟩ := y2
    exact ⟨_, rfl, s'', rfl, h3⟩
  · rintro a x ⟨s', rfl, hF⟩
    unfold fLX6_follow_13
    rw [c_len hW, sb, if_pos (by rw [le32 (by omega) (by omega) (by omega) (by omega)]; omega)]
    exact ⟨_, rfl, s', rfl, hF⟩
theorem c_followBack (hS : WfS S) (hR : RS s 3 S) (H : Hr r) {s0 : Mm} {L0 : RLs} {a0 : RLs × Int} (hF0 : FW s0 r S.1 L0 a0 s) {k : Nat} (hk : k < L0.length) (h9 : (lnk L0 k).2 ≤ k) :
    ∃ s' : Mm, fX6_followBack (M h s) (h + r) (i32 (k : Int)) = some (M h s') ∧ FW s0 r S.1 L0 (((bks S (lnk L0 k).1).map (bkw S (lnk L0 k).1)).foldl (gA ((lnk L0 k).2 + 1)) a0) s' := by
  have h12 := hS.2.1
  have hK := hS.1.2
  have h10 := H.2.1
  obtain ⟨sl0, f1, f2, f3, f4, f5⟩ := id hF0
  have hl0 := List.IsPrefix.length_le f5
  have hwk := f2.2.2.2.2.1 _ (lnk_mem (show k < a0.1.length by omega))
  have hrd := f2.2.1 k (by omega)
  have h200 := f2.2.2.2.1
  rw [pre_lnk f5 hk] at hwk hrd
  have hRB : RS s0 3 S := by
    have h5 : Fr r (r + 3) s s0 := fun i hi => ⟨((f1.1 i hi).1).symm, ((f1.1 i hi).2).symm⟩
    exact hR.fr h5 (Or.inl (by omega))
  generalize hw' : (lnk L0 k).1 = w at *
  have hW := hwk.ww hK
  have h16 := hW.1
  have hbody : ∀ (a : RLs × Int) (s' : Mm), FW s0 r S.1 L0 a s' → RS s' 3 S ∧ s'.1 (r + 2) k = i32 ((lnk L0 k).2 : Int) := by
    intro a s' hF
    obtain ⟨sl', h1, h2, h3, h4, h5⟩ := hF
    have hl := List.IsPrefix.length_le h5
    exact ⟨hRB.fr h1.1 (Or.inl (by omega)), by rw [h2.2.2.1 k (by omega), pre_lnk h5 hk]⟩
  have hin : ∀ (p : Nat), p < w.length + 1 → ∀ (a : RLs × Int) (s' : Mm), FW s0 r S.1 L0 a s' → ∃ y, iterP (fLX6_followBack_22 (h + r) (i32 (k : Int)) (i64 (cw w : Int)) (i32 (p : Int))) (0, M h s') = some y ∧ outc (E := Empty) (fun a' y => ∃ s'' : Mm, y = M h s'' ∧ FW s0 r S.1 L0 a' s'') (fun e _ => e.elim) (walk (fun a x => .inl (gA ((lnk L0 k).2 + 1) a (bkw S w x))) a (bksAt S w p)) y := by
    intro p hp a s' hF
    rw [← convB_in]
    refine loop_rel _ (fun a r' x => ∃ s'' : Mm, x = (i32 (r' : Int), M h s'') ∧ FW s0 r S.1 L0 a s'') _ _ (nr S) ?_ ?_ ⟨s', rfl, hF⟩
    · rintro a r' x hr' ⟨s1, rfl, hF1⟩
      obtain ⟨hR1, hcm⟩ := hbody a s1 hF1
      unfold fLX6_followBack_22
      simp only [re_r H, sb, g_3_1, hR1.2.1]
      rw [if_neg (by rw [le32 (by omega) (by omega) (by omega) (by omega)]; omega)]
      simp only [g_3_2, g_3_3, sb, rdl hS hR1 hr', rdr hS hR1 hr', c_fits hW (wr hS hr') (wl hS hr') (show p ≤ 16 by omega)]
      by_cases c1 : fitB S w p r'
      · obtain ⟨s2, z1, z2⟩ := FW.step (h := h) H hK hk h9 hF1 (bkw_Wk hS hwk (x := (p, r')) (by show p ≤ w.length; omega) hr' c1)
        rw [if_pos c1, if_neg (by decide), c_repl hW (wr hS hr') (wl hS hr') c1 (by omega)]
        simp only [sb, re_c H, ra_c H (show (0 : Int) ≤ (k : Int) by omega) (show (k : Int) < 200 by omega), tn0, hcm, re_o H, q1, a32, xlet_eq]
        rw [show repl w p (rr S r') (rl S r') = bkw S w (p, r') from rfl, z1, sb]
        refine ⟨_, rfl, ?_⟩
        rw [if_pos c1]
        exact ⟨_, rfl, s2, rfl, z2⟩
      · rw [if_neg c1, if_pos rfl, xlet_eq, q1, a32]
        refine ⟨_, rfl, ?_⟩
        rw [if_neg c1]
        exact ⟨_, rfl, s1, rfl, hF1⟩
    · rintro a x ⟨s1, rfl, hF1⟩
      obtain ⟨hR1, hcm⟩ := hbody a s1 hF1
      unfold fLX6_followBack_22
      simp only [re_r H, sb, g_3_1, hR1.2.1]
      rw [if_pos (by rw [le32 (by omega) (by omega) (by omega) (by omega)]; omega)]
      exact ⟨_, rfl, s1, rfl, hF1⟩
  have key := loop_rel (F := fLX6_followBack_10 (h + r) (i32 (k : Int)) (i64 (cw w : Int))) (E := Empty) (fun (a : RLs × Int) p => walk (fun a x => .inl (gA ((lnk L0 k).2 + 1) a (bkw S w x))) a (bksAt S w p))
    (fun a p x => ∃ s' : Mm, x = (i32 (p : Int), M h s') ∧ FW s0 r S.1 L0 a s') (fun a y => ∃ s' : Mm, y = M h s' ∧ FW s0 r S.1 L0 a s') (fun e _ => e.elim) (w.length + 1) ?_ ?_ (a := a0) (x := (0, M h s)) ⟨s, rfl, hF0⟩
  · obtain ⟨y, k1, k2⟩ := key
    rw [convB_out, walk_fold] at k2
    obtain ⟨s', rfl, k3⟩ := k2
    refine ⟨s', ?_, ?_⟩
    · unfold fX6_followBack
      rw [re_w H, sb, ra_w H (by omega) (by omega), tn0, sb, hrd, k1, sb]
    · rw [List.foldl_map]
      exact k3
  · rintro a p x hp ⟨s', rfl, hF⟩
    obtain ⟨y, y1, y2⟩ := hin p hp a s' hF
    unfold fLX6_followBack_10
    rw [c_len hW, sb, if_neg (by rw [lt32 (by omega) (by omega) (by omega) (by omega)]; omega), y1, sb, xlet_eq, q1, a32]
    refine ⟨_, rfl, ?_⟩
    rw [walk_fold] at y2 ⊢
    obtain ⟨s'', rfl, h3⟩ := y2
    exact ⟨_, rfl, s'', rfl, h3⟩
  · rintro a x ⟨s', rfl, hF⟩
    unfold fLX6_followBack_10
    rw [c_len hW, sb, if_pos (by rw [lt32 (by omega) (by omega) (by omega) (by omega)]; omega)]
    exact ⟨_, rfl, s', rfl, hF⟩
end HR
