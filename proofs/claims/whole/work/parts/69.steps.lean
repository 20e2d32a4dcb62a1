/-! STEPS of a word, and what the class's rules and runner find of them -/
abbrev fitR (S : Sys) (w : List Nat) (p r : Nat) : Prop := fitsAt w p (rl S r) (rr S r)
def stepsAt (S : Sys) (w : List Nat) (p : Nat) : List (Nat × Nat) := ((List.range (nr S)).filter (fun r => decide (fitR S w p r))).map (fun r => (p, r))
def stps (S : Sys) (w : List Nat) : List (Nat × Nat) := (List.range w.length).flatMap (stepsAt S w)
def aft (S : Sys) (w : List Nat) (x : Nat × Nat) : List Nat := repl w x.1 (rl S x.2) (rr S x.2)
def cod (x : Nat × Nat) : Nat := x.1 * 16 + x.2
def okS (S : Sys) (w : List Nat) (x : Nat × Nat) : Prop := x.1 < w.length ∧ x.2 < nr S ∧ fitR S w x.1 x.2
theorem mem_stepsAt {S : Sys} {w : List Nat} {p : Nat} {x : Nat × Nat} : x ∈ stepsAt S w p ↔ x.1 = p ∧ x.2 < nr S ∧ fitR S w x.1 x.2 := by
  unfold stepsAt
  rw [List.mem_map]
  constructor
  · rintro ⟨r, hr, rfl⟩
    rw [List.mem_filter, List.mem_range] at hr
    exact ⟨rfl, hr.1, of_decide_eq_true hr.2⟩
  · rintro ⟨h1, h2, h3⟩
    refine ⟨x.2, ?_, by rw [← h1]⟩
    rw [List.mem_filter, List.mem_range]
    exact ⟨h2, decide_eq_true (h1 ▸ h3)⟩
theorem mem_stps {S : Sys} {w : List Nat} {x : Nat × Nat} : x ∈ stps S w ↔ okS S w x := by
  unfold stps okS
  rw [List.mem_flatMap]
  constructor
  · rintro ⟨p, hp, hx⟩
    obtain ⟨rfl, h2, h3⟩ := mem_stepsAt.mp hx
    exact ⟨List.mem_range.mp hp, h2, h3⟩
  · rintro ⟨h1, h2, h3⟩
    exact ⟨x.1, List.mem_range.mpr h1, mem_stepsAt.mpr ⟨rfl, h2, h3⟩⟩
theorem conv_in {A E : Type} (S : Sys) (w : List Nat) (p : Nat) (g : A → Nat × Nat → A ⊕ E) (a : A) : walk (fun a r => if fitR S w p r then g a (p, r) else .inl a) a (List.range (nr S)) = walk g a (stepsAt S w p) := by
  unfold stepsAt
  rw [walk_map, walk_filter]
theorem conv_out {A E : Type} (S : Sys) (w : List Nat) (g : A → Nat × Nat → A ⊕ E) (a : A) : walk (fun a p => walk g a (stepsAt S w p)) a (List.range w.length) = walk g a (stps S w) := by
  unfold stps
  rw [walk_flatMap]
theorem aft_Wk {S : Sys} (hS : WfS S) {w : List Nat} (hw : Wk S.1 w) {x : Nat × Nat} (hx : okS S w x) : Wk S.1 (aft S w x) := by
  obtain ⟨h1, h2, h3⟩ := hx
  refine ⟨by unfold aft; rw [repl_len h3 (by omega)]; have := h3.2; omega, fun y hy => ?_⟩
  unfold aft repl at hy
  rcases List.mem_append.mp hy with hy | hy
  · rcases List.mem_append.mp hy with hy | hy
    · exact hw.2 y (List.mem_of_mem_take hy)
    · exact (hS.2.2.1 x.2 h2).2.1.2 y hy
  · exact hw.2 y (List.mem_of_mem_drop hy)
theorem walk_nth (k : Int) (l : List (Nat × Nat)) : ∀ c : Nat, walk (fun (c : Nat) x => if (c : Int) = k then .inr (c, x) else .inl (c + 1)) c l = if k < (c : Int) then .inl (c + l.length) else match l[(k - c).toNat]? with
    | some x => .inr (k.toNat, x)
    | none => .inl (c + l.length) := by
  induction l with
  | nil => intro c; simp [walk]
  | cons y l ih =>
    intro c
    simp only [walk]
    by_cases h1 : (c : Int) = k
    · rw [if_pos h1, if_neg (by omega), show (k - c).toNat = 0 by omega]
      simp only [List.getElem?_cons_zero]
      rw [← h1]; rfl
    · rw [if_neg h1]
      simp only []
      rw [ih]
      by_cases h2 : k < (c : Int)
      · rw [if_pos (by omega), if_pos h2, List.length_cons]
        congr 1; omega
      · rw [if_neg (by omega), if_neg h2, show (k - c).toNat = (k - ((c + 1 : Nat) : Int)).toNat + 1 by omega, List.getElem?_cons_succ, List.length_cons]
        cases l[(k - ((c + 1 : Nat) : Int)).toNat]? with
        | none => simp only []; congr 1; omega
        | some x => rfl
theorem filt_cnt {X : Type} (P : X → Prop) [DecidablePred P] (l : List X) : ∀ a : Nat, l.foldl (fun a x => if P x then a + 1 else a) a = a + (l.filter (fun x => decide (P x))).length := by
  induction l with
  | nil => intro a; simp
  | cons x l ih =>
    intro a
    rw [List.foldl_cons, ih]
    by_cases h : P x
    · simp [h]; omega
    · simp [h]
section CC
variable {h : Nat} {s : Mm} {S : Sys} {w a b : List Nat}
theorem rdl (hS : WfS S) (hR : RS s 3 S) {k : Nat} (hk : k < nr S) : aL (M h s) (h + 4) (i32 (k : Int)) = some (i64 (cw (rl S k) : Int)) := by
  have := hS.2.1
  rw [a_4 (by omega) (by omega), tn0]; exact congrArg some (hR.2.2.1 k hk)
theorem rdr (hS : WfS S) (hR : RS s 3 S) {k : Nat} (hk : k < nr S) : aL (M h s) (h + 5) (i32 (k : Int)) = some (i64 (cw (rr S k) : Int)) := by
  have := hS.2.1
  rw [a_5 (by omega) (by omega), tn0]; exact congrArg some (hR.2.2.2.1 k hk)
theorem wl (hS : WfS S) {k : Nat} (hk : k < nr S) : Ww (rl S k) := (hS.2.2.1 k hk).1.ww hS.1.2
theorem wr (hS : WfS S) {k : Nat} (hk : k < nr S) : Ww (rr S k) := (hS.2.2.1 k hk).2.1.ww hS.1.2
theorem ite01 {c : Prop} [Decidable c] : ((if c then (1 : Int32) else 0) = 0) = ¬ c := by
  by_cases h : c
  · rw [if_pos h]; simp [h]
  · rw [if_neg h]; simp [h]
theorem c_stepsOf (hS : WfS S) (hR : RS s 3 S) (hw : Ww w) : fX8_stepsOf (M h s) (h + 3) (i64 (cw w : Int)) = some (i32 ((stps S w).length : Int)) := by
  have h12 := hS.2.1
  have h16 := hw.1
  unfold fX8_stepsOf
  rw [loop_fold (fun a p => a + (stepsAt S w p).length) (fun a k => (i32 (a : Int), i32 (k : Int))) (fun a => i32 (a : Int)) w.length ?_ ?_ (a := 0) (show ((0 : Int32), (0 : Int32)) = _ from rfl), sb]
  · have e : ∀ l : List Nat, ∀ c, l.foldl (fun a p => a + (stepsAt S w p).length) c = c + (l.flatMap (stepsAt S w)).length := by
      intro l
      induction l with
      | nil => intro c; rfl
      | cons x l ih => intro c; rw [List.foldl_cons, ih, List.flatMap_cons, List.length_append]; omega
    rw [e, Nat.zero_add]; rfl
  · intro a p hp
    unfold fLX8_stepsOf_5
    rw [c_len hw, sb, if_neg (by rw [le32 (by omega) (by omega) (by omega) (by omega)]; omega)]
    rw [loop_fold (fun (a : Nat) r => if fitR S w p r then a + 1 else a) (fun a k => (i32 (a : Int), i32 (k : Int))) (fun a => i32 (a : Int)) (nr S) ?_ ?_ (a := a) (show (_, (0 : Int32)) = _ from rfl), sb, xlet_eq, q1, a32, filt_cnt]
    · unfold stepsAt
      rw [List.length_map]; rfl
    · intro a r hr
      unfold fLX8_stepsOf_17
      rw [g_3_1, sb, hR.2.1, if_neg (by rw [le32 (by omega) (by omega) (by omega) (by omega)]; omega), g_3_2, sb, rdl hS hR hr, sb, g_3_3, sb, rdr hS hR hr, sb, c_fits hw (wl hS hr) (wr hS hr) (by omega), sb]
      by_cases c : fitR S w p r
      · rw [if_pos c, if_neg (by decide), xlet_eq, xlet_eq, q1, a32, a32, if_pos c]; rfl
      · rw [if_neg c, if_pos rfl, xlet_eq, q1, a32, if_neg c]; rfl
    · intro a
      unfold fLX8_stepsOf_17
      rw [g_3_1, sb, hR.2.1, if_pos (by rw [le32 (by omega) (by omega) (by omega) (by omega)]; omega)]
  · intro a
    unfold fLX8_stepsOf_5
    rw [c_len hw, sb, if_pos (by rw [le32 (by omega) (by omega) (by omega) (by omega)]; omega)]
theorem c_codeOf {p r : Nat} : fX8_codeOf (i32 (p : Int)) (i32 (r : Int)) = some (i32 (cod (p, r) : Int)) := by
  unfold fX8_codeOf
  rw [q16, m32, a32]; rfl
theorem stps_len {S : Sys} (hS : WfS S) {w : List Nat} (hw : Ww w) : (stps S w).length ≤ 192 := by
  have e : ∀ l : List Nat, (l.flatMap (stepsAt S w)).length ≤ l.length * 12 := by
    intro l
    induction l with
    | nil => simp
    | cons x l ih =>
      rw [List.flatMap_cons, List.length_append, List.length_cons, Nat.add_mul]
      have : (stepsAt S w x).length ≤ 12 := by
        unfold stepsAt
        rw [List.length_map]
        have := List.length_filter_le (fun r => decide (fitR S w x r)) (List.range (nr S))
        rw [List.length_range] at this
        exact Nat.le_trans this hS.2.1
      omega
  have := e (List.range w.length)
  rw [List.length_range] at this
  have := hw.1
  unfold stps
  omega
/-- the code of step k, -1: none -/
def codO (o : Option (Nat × Nat)) : Int := match o with
  | some x => (cod x : Int)
  | none => -1
theorem c_stepCode (hS : WfS S) (hR : RS s 3 S) (hw : Ww w) {k : Nat} (hk : k ≤ 2147483647) : fX8_stepCode (M h s) (h + 3) (i64 (cw w : Int)) (i32 (k : Int)) = some (i32 (codO (stps S w)[k]?)) := by
  have h12 := hS.2.1
  have h16 := hw.1
  unfold fX8_stepCode
  have key := loop_inv (F := fLX8_stepCode_6 (M h s) (h + 3) (i64 (cw w : Int)) (i32 (k : Int))) (fun (c : Nat) p => walk (fun (c : Nat) x => if (c : Int) = (k : Int) then .inr (c, x) else .inl (c + 1)) c (stepsAt S w p)) (fun c p => c ≤ 12 * p)
    (fun c p => (i32 (c : Int), i32 (p : Int))) (fun _ => .inr ()) (fun e => .inl (i32 (e.2.1 : Int), i32 (e.2.2 : Int))) w.length ?_ ?_ (a := 0) (x := (0, 0)) rfl (Nat.zero_le _)
  · rw [key, sb, conv_out, walk_nth, if_neg (by omega)]
    simp only [Int.natCast_zero, Int.sub_zero, tn0]
    cases hx : (stps S w)[k]? with
    | none => rfl
    | some x =>
      simp only [Sum.elim_inr]
      rw [c_codeOf, sb]; rfl
  · intro c p hp hc
    have hin : ∀ (c : Nat), c ≤ 12 * p → iterP (fLX8_stepCode_18 (M h s) (h + 3) (i64 (cw w : Int)) (i32 (k : Int)) (i32 (p : Int))) (i32 (c : Int), 0) = some (Sum.elim (fun c' => .inr (i32 (c' : Int))) (fun e => .inl (i32 (e.2.2 : Int))) (walk (fun (c : Nat) x => if (c : Int) = (k : Int) then .inr (c, x) else .inl (c + 1)) c (stepsAt S w p))) := by
      intro c hc
      rw [← conv_in]
      refine loop_inv _ (fun c r => c ≤ 12 * p + r) (fun c r => (i32 (c : Int), i32 (r : Int))) (fun c => Sum.inr (i32 (c : Int))) (fun (e : Nat × Nat × Nat) => Sum.inl (i32 (e.2.2 : Int))) (nr S) ?_ ?_ rfl (by omega)
      · intro c r hr hc
        constructor
        · unfold fLX8_stepCode_18
          rw [g_3_1, sb, hR.2.1, if_neg (by rw [le32 (by omega) (by omega) (by omega) (by omega)]; omega), g_3_2, sb, rdl hS hR hr, sb, g_3_3, sb, rdr hS hR hr, sb, c_fits hw (wl hS hr) (wr hS hr) (by omega), sb]
          by_cases c1 : fitR S w p r
          · rw [if_pos c1, if_neg (by decide), if_pos c1]
            by_cases c2 : (c : Int) = (k : Int)
            · rw [if_pos (by rw [c2]), if_pos c2]; rfl
            · rw [if_neg (by rw [eq32 (by omega) (by omega) (by omega) (by omega)]; exact c2), xlet_eq, xlet_eq, q1, a32, a32, if_neg c2]; rfl
          · rw [if_neg c1, if_pos rfl, xlet_eq, q1, a32, if_neg c1]; rfl
        · intro c' hc'
          by_cases c1 : fitR S w p r
          · rw [if_pos c1] at hc'
            by_cases c2 : (c : Int) = (k : Int)
            · rw [if_pos c2] at hc'; cases hc'
            · rw [if_neg c2] at hc'; cases hc'; omega
          · rw [if_neg c1] at hc'; cases hc'; omega
      · intro c hc
        unfold fLX8_stepCode_18
        rw [g_3_1, sb, hR.2.1, if_pos (by rw [le32 (by omega) (by omega) (by omega) (by omega)]; omega)]
    constructor
    · unfold fLX8_stepCode_6
      rw [c_len hw, sb, if_neg (by rw [le32 (by omega) (by omega) (by omega) (by omega)]; omega), hin c hc, sb]
      cases hx : walk (fun (c : Nat) x => if (c : Int) = (k : Int) then .inr (c, x) else .inl (c + 1)) c (stepsAt S w p) with
      | inl c' => simp only [Sum.elim_inl]; rw [xlet_eq, q1, a32]; rfl
      | inr e =>
        simp only []
        have : e.2.1 = p := by
          rw [walk_nth] at hx
          split at hx
          · cases hx
          · split at hx
            · rename_i x hx2
              cases hx
              exact (mem_stepsAt.mp (List.mem_of_getElem? hx2)).1
            · cases hx
        simp only [Sum.elim_inr]
        rw [this]
    · intro c' hc'
      rw [walk_nth] at hc'
      have hl : (stepsAt S w p).length ≤ 12 := by
        unfold stepsAt
        rw [List.length_map]
        have := List.length_filter_le (fun r => decide (fitR S w p r)) (List.range (nr S))
        rw [List.length_range] at this
        omega
      split at hc'
      · cases hc'; omega
      · split at hc'
        · cases hc'
        · cases hc'; omega
  · intro c hc
    unfold fLX8_stepCode_6
    rw [c_len hw, sb, if_pos (by rw [le32 (by omega) (by omega) (by omega) (by omega)]; omega)]
theorem cod_ok {S : Sys} (hS : WfS S) {w : List Nat} (hw : Ww w) {x : Nat × Nat} (hx : okS S w x) : cod x / 16 = x.1 ∧ cod x % 16 = x.2 ∧ cod x ≤ 271 := by
  have := hS.2.1
  have := hw.1
  obtain ⟨h1, h2, -⟩ := hx
  unfold cod
  omega
theorem c_after (hS : WfS S) (hR : RS s 3 S) (hw : Ww w) {x : Nat × Nat} (hx : okS S w x) : fX8_after (M h s) (h + 3) (i64 (cw w : Int)) (i32 (cod x : Int)) = some (i64 (cw (aft S w x) : Int)) := by
  obtain ⟨e1, e2, e3⟩ := cod_ok hS hw hx
  have := hw.1
  obtain ⟨h1, h2, h3⟩ := hx
  unfold fX8_after fX8_ruleOf fX8_whereOf
  rw [sb, and15, e2, show (4 : Int32) = i32 ((4 : Nat) : Int) from by decide, sar32 (by omega) (by decide), show (2 : Nat) ^ 4 = 16 from rfl, e1, sb, g_3_2, sb, rdl hS hR h2, sb, g_3_3, sb, rdr hS hR h2, sb, c_repl hw (wl hS h2) (wr hS h2) h3 (by omega), sb]; rfl
theorem cmpS_3 {a b : List Nat} : cmpS S a b = 1 ∨ cmpS S a b = 0 ∨ cmpS S a b = -1 := by
  unfold cmpS
  split
  · split
    · split
      · exact Or.inl rfl
      · exact Or.inr (Or.inr rfl)
    · exact Or.inr (Or.inl rfl)
  · split
    · exact Or.inl rfl
    · exact Or.inr (Or.inr rfl)
end CC
