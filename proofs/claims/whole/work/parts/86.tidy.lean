/-! TO TIDY: rules whose left holds another's go; rights run to their ends -/
def hldB (w u : List Nat) : Bool := ((List.range w.length).find? (fun p => decide ((w.drop p).take u.length = u))).isSome
def covB (S : Sys) (r : Nat) : Bool := ((List.range (nr S)).find? (fun q => decide (q ≠ r) && hldB (rl S r) (rl S q))).isSome
def idl (S : Sys) : Option Nat := (List.range (nr S)).find? (covB S)
def dropR (S : Sys) (r : Nat) : Sys := (S.1, S.2.1.eraseIdx r, S.2.2)
def setR (S : Sys) (r : Nat) (v : List Nat) : Sys := (S.1, S.2.1.set r (rl S r, v), S.2.2)
def drpF : Nat → Sys → Sys × Nat
  | 0, S => (S, 0)
  | n + 1, S => match idl S with
    | none => (S, 0)
    | some r => ((drpF n (dropR S r)).1, (drpF n (dropR S r)).2 + 1)
def tdy (S : Sys) : Sys := (List.range (nr S)).foldl (fun S r => setR S r (runS S 0 (rr S r)).2.2.1) S
theorem dropR_nr {S : Sys} {r : Nat} (hr : r < nr S) : nr (dropR S r) = nr S - 1 := by
  unfold nr dropR
  exact List.length_eraseIdx_of_lt hr
theorem dropR_get {S : Sys} {r k : Nat} (hr : r < nr S) (hk : k < nr S - 1) : rl (dropR S r) k = rl S (if k < r then k else k + 1) ∧ rr (dropR S r) k = rr S (if k < r then k else k + 1) := by
  unfold rl rr dropR
  simp only [List.getD_eq_getElem?_getD, List.getElem?_eraseIdx]
  by_cases c : k < r
  · simp only [c, if_true]; exact ⟨trivial, trivial⟩
  · simp only [c, if_false]; exact ⟨trivial, trivial⟩
theorem setR_nr {S : Sys} {r : Nat} {v : List Nat} : nr (setR S r v) = nr S := by
  unfold nr setR
  exact List.length_set
theorem setR_get {S : Sys} {r k : Nat} {v : List Nat} (hr : r < nr S) : rl (setR S r v) k = rl S k ∧ rr (setR S r v) k = if k = r then v else rr S k := by
  have hr' : r < S.2.1.length := hr
  unfold rl rr setR
  simp only [List.getD_eq_getElem?_getD, List.getElem?_set]
  by_cases c : k = r
  · subst c
    simp only [if_true, hr']
    exact ⟨rfl, rfl⟩
  · have c' : ¬ r = k := fun e => c e.symm
    simp only [c, c', if_false]; exact ⟨trivial, trivial⟩
theorem dropR_wf {S : Sys} (hS : WfS S) {r : Nat} (hr : r < nr S) : WfS (dropR S r) := by
  refine ⟨hS.1, by rw [dropR_nr hr]; have := hS.2.1; omega, fun k hk => ?_, hS.2.2.2⟩
  rw [dropR_nr hr] at hk
  rw [(dropR_get hr hk).1, (dropR_get hr hk).2]
  by_cases c : k < r
  · rw [if_pos c]; exact hS.2.2.1 k (by omega)
  · rw [if_neg c]; exact hS.2.2.1 (k + 1) (by omega)
theorem setR_wf {S : Sys} (hS : WfS S) {r : Nat} (hr : r < nr S) {v : List Nat} (hv : Wk S.1 v) : WfS (setR S r v) := by
  refine ⟨hS.1, by rw [setR_nr]; exact hS.2.1, fun k hk => ?_, hS.2.2.2⟩
  rw [setR_nr] at hk
  rw [(setR_get hr).1, (setR_get hr).2]
  by_cases c : k = r
  · rw [if_pos c]; exact ⟨(hS.2.2.1 k hk).1, hv, (hS.2.2.1 k hk).2.2⟩
  · rw [if_neg c]; exact hS.2.2.1 k hk
section CC
variable {h : Nat} {s : Mm} {S : Sys}
theorem c_holds {w u : List Nat} (hw : Ww w) (hu : Ww u) : fX10_holds (i64 (cw w : Int)) (i64 (cw u : Int)) = some (if hldB w u = true then 1 else 0) := by
  have h16 := hw.1
  unfold fX10_holds hldB
  rw [loop_find (fun p => decide ((w.drop p).take u.length = u)) (fun p => i32 (p : Int)) (.inr ()) (fun _ => .inl ()) w.length ?_ ?_ (show (0 : Int32) = _ from rfl), sb]
  · cases (List.range w.length).find? (fun p => decide ((w.drop p).take u.length = u)) <;> rfl
  · intro p hp
    unfold fLX10_holds_3
    rw [c_len hw, sb, if_neg (by rw [le32 (by omega) (by omega) (by omega) (by omega)]; omega), c_stands hw hu (by omega), sb]
    by_cases c : (w.drop p).take u.length = u
    · rw [if_pos c, if_neg (by decide), if_pos (decide_eq_true c)]
    · rw [if_neg c, if_pos rfl, if_neg (by rw [decide_eq_true_eq]; exact c), xlet_eq, q1, a32]; rfl
  · unfold fLX10_holds_3
    rw [c_len hw, sb, if_pos (by rw [le32 (by omega) (by omega) (by omega) (by omega)]; omega)]
theorem r_isIn2 {w u : List Nat} (hw : Ww w) (hu : Ww u) (hne : u ≠ []) : fX12_isIn2 (i64 (r6 u : Int)) (i64 (r6 w : Int)) = some (if hldB w u = true then 1 else 0) := by
  have h16 := hw.1
  have hu16 := hu.1
  have hup : 0 < u.length := List.length_pos_iff.mpr hne
  unfold fX12_isIn2
  rw [r_len hu, sb, loop_find (fun p => decide ((w.drop p).take u.length = u)) (fun p => i32 (p : Int)) (.inr ()) (fun _ => .inl ()) (w.length + 1 - u.length) ?_ ?_ (show (0 : Int32) = _ from rfl), sb]
  · have e : (((List.range (w.length + 1 - u.length)).find? (fun p => decide ((w.drop p).take u.length = u))).isSome = true) ↔ hldB w u = true := by
      unfold hldB
      rw [List.find?_isSome, List.find?_isSome]
      constructor
      · rintro ⟨p, hp, he⟩
        rw [List.mem_range] at hp
        exact ⟨p, List.mem_range.mpr (by omega), he⟩
      · rintro ⟨p, hp, he⟩
        rw [List.mem_range] at hp
        refine ⟨p, List.mem_range.mpr ?_, he⟩
        have := congrArg List.length (of_decide_eq_true he)
        rw [List.length_take, List.length_drop] at this
        omega
    cases hf : (List.range (w.length + 1 - u.length)).find? (fun p => decide ((w.drop p).take u.length = u)) with
    | none =>
      rw [hf] at e
      rw [if_neg (fun hn => by have := e.mpr hn; cases this)]
    | some p =>
      rw [hf] at e
      rw [if_pos (e.mp rfl)]
  · intro p hp
    unfold fLX12_isIn2_9
    rw [r_len hw, sb, a32, if_neg (by rw [lt32 (by omega) (by omega) (by omega) (by omega)]; omega), r_part hw (by omega), sb]
    by_cases c : (w.drop p).take u.length = u
    · rw [if_pos (by rw [cmp0, c]), if_pos (decide_eq_true c)]
    · rw [if_neg (by rw [cmp0, r6e ((hw.drop p).take _) hu]; exact c), if_neg (by rw [decide_eq_true_eq]; exact c), xlet_eq, q1, a32]; rfl
  · unfold fLX12_isIn2_9
    rw [r_len hw, sb, a32, if_pos (by rw [lt32 (by omega) (by omega) (by omega) (by omega)]; omega)]
theorem c_covered (hS : WfS S) (hR : RS s 3 S) : fX8_firstCovered (M h s) (h + 3) = some (i32 (natO (idl S))) := by
  have h12 := hS.2.1
  unfold fX8_firstCovered idl
  rw [loop_find (covB S) (fun r => i32 (r : Int)) (.inr ()) (fun r => .inl (i32 (r : Int))) (nr S) ?_ ?_ (show (0 : Int32) = _ from rfl), sb]
  · cases (List.range (nr S)).find? (covB S) <;> rfl
  · intro r hr
    unfold fLX8_firstCovered_2
    rw [g_3_1, sb, hR.2.1, if_neg (by rw [le32 (by omega) (by omega) (by omega) (by omega)]; omega), loop_find (fun q => decide (q ≠ r) && hldB (rl S r) (rl S q)) (fun q => i32 (q : Int)) (.inr ()) (fun _ => .inl ()) (nr S) ?_ ?_ (show (0 : Int32) = _ from rfl), sb]
    · unfold covB
      cases (List.range (nr S)).find? (fun q => decide (q ≠ r) && hldB (rl S r) (rl S q)) with
      | none => simp only [Option.isSome_none, if_false]; rw [xlet_eq, q1, a32]; rfl
      | some q => rfl
    · intro q hq
      unfold fLX8_firstCovered_12
      rw [g_3_1, sb, hR.2.1, if_neg (by rw [le32 (by omega) (by omega) (by omega) (by omega)]; omega)]
      by_cases c : q = r
      · rw [if_pos (by rw [c]), xlet_eq, q1, a32, if_neg (by simp [c])]; rfl
      · rw [if_neg (by rw [eq32 (by omega) (by omega) (by omega) (by omega)]; omega), g_3_2, sb, rdl hS hR hr, sb, sb, rdl hS hR hq, sb, c_holds (wl hS hr) (wl hS hq), sb]
        by_cases c2 : hldB (rl S r) (rl S q) = true
        · rw [if_pos c2, if_neg (by decide), if_pos (by simp [c, c2])]
        · rw [if_neg c2, if_pos rfl, xlet_eq, q1, a32, if_neg (by simp [c2])]; rfl
    · unfold fLX8_firstCovered_12
      rw [g_3_1, sb, hR.2.1, if_pos (by rw [le32 (by omega) (by omega) (by omega) (by omega)]; omega)]
  · unfold fLX8_firstCovered_2
    rw [g_3_1, sb, hR.2.1, if_pos (by rw [le32 (by omega) (by omega) (by omega) (by omega)]; omega)]
theorem r_idle (hS : WfS S) (hR : RR (s.2 309) S) : fX12_idle (M h s) (h + 308) = some (i32 (natO (idl S))) := by
  have h12 := hS.2.1
  unfold fX12_idle idl
  rw [loop_find (covB S) (fun r => i32 (r : Int)) (.inr ()) (fun r => .inl (i32 (r : Int))) (nr S) ?_ ?_ (show (0 : Int32) = _ from rfl), sb]
  · cases (List.range (nr S)).find? (covB S) <;> rfl
  · intro r hr
    unfold fLX12_idle_2
    rw [o_308, sb, r_rules hR, sb, if_neg (by rw [le32 (by omega) (by omega) (by omega) (by omega)]; omega), loop_find (fun q => decide (q ≠ r) && hldB (rl S r) (rl S q)) (fun q => i32 (q : Int)) (.inr ()) (fun _ => .inl ()) (nr S) ?_ ?_ (show (0 : Int32) = _ from rfl), sb]
    · unfold covB
      cases (List.range (nr S)).find? (fun q => decide (q ≠ r) && hldB (rl S r) (rl S q)) with
      | none => simp only [Option.isSome_none, if_false]; rw [xlet_eq, q1, a32]; rfl
      | some q => rfl
    · intro q hq
      unfold fLX12_idle_12
      rw [o_308, sb, r_rules hR, sb, if_neg (by rw [le32 (by omega) (by omega) (by omega) (by omega)]; omega)]
      by_cases c : q = r
      · rw [if_pos (by rw [c]), xlet_eq, q1, a32, if_neg (by simp [c])]; rfl
      · rw [if_neg (by rw [eq32 (by omega) (by omega) (by omega) (by omega)]; omega), sb, r_left hS hR hq, sb, sb, r_left hS hR hr, sb, r_isIn2 (wl hS hr) (wl hS hq) (hS.2.2.1 q hq).2.2, sb]
        by_cases c2 : hldB (rl S r) (rl S q) = true
        · rw [if_pos c2, if_neg (by decide), if_pos (by simp [c, c2])]
        · rw [if_neg c2, if_pos rfl, xlet_eq, q1, a32, if_neg (by simp [c2])]; rfl
    · unfold fLX12_idle_12
      rw [o_308, sb, r_rules hR, sb, if_pos (by rw [le32 (by omega) (by omega) (by omega) (by omega)]; omega)]
  · unfold fLX12_idle_2
    rw [o_308, sb, r_rules hR, sb, if_pos (by rw [le32 (by omega) (by omega) (by omega) (by omega)]; omega)]
/-- a row of which one goes, up to a place -/
def shf (f : Nat → Int64) (b r k : Nat) : Nat → Int64 := fun j => if b + r ≤ j ∧ j < b + k then f (j + 1) else f j
theorem shf_0 (f : Nat → Int64) (b r : Nat) : shf f b r r = f := by
  funext j
  unfold shf
  rw [if_neg (by omega)]
theorem shf_up (f : Nat → Int64) (b r k : Nat) (hk : r ≤ k) : vp_updL (shf f b r k) (b + k) (shf f b r k (b + k + 1)) = shf f b r (k + 1) := by
  funext j
  unfold vp_updL shf
  by_cases c : j = b + k
  · subst c
    rw [if_pos rfl, if_neg (by omega), if_pos (by omega)]
  · rw [if_neg c]
    by_cases c2 : b + r ≤ j ∧ j < b + k
    · rw [if_pos c2, if_pos (by omega)]
    · rw [if_neg c2, if_neg (by omega)]
theorem c_drop (hS : WfS S) (hR : RS s 3 S) {r : Nat} (hr : r < nr S) : ∃ s' : Mm, fX8_drop (M h s) (h + 3) (i32 (r : Int)) = some (M h s') ∧ RS s' 3 (dropR S r) ∧ Fr 3 5 s s' ∧ s'.1 3 6 = s.1 3 6 + 1 ∧ (∀ j, j ≠ 1 → j ≠ 6 → s'.1 3 j = s.1 3 j) := by
  have h12 := hS.2.1
  obtain ⟨i1, i2, i3, i4, i5, i6⟩ := id hR
  have key : ∀ (d k : Nat), r ≤ k → k + d = nr S - 1 → iterP (fLX8_drop_2 (h + 3)) (i32 (k : Int), M h (mL (mL s 4 (shf (s.2 4) 0 r k)) 5 (shf (s.2 5) 0 r k))) = some (M h (mL (mL s 4 (shf (s.2 4) 0 r (nr S - 1))) 5 (shf (s.2 5) 0 r (nr S - 1)))) := by
    intro d
    induction d with
    | zero =>
      intro k hrk hk
      have hk : k = nr S - 1 := by omega
      rw [iterP_eq]
      unfold fLX8_drop_2
      rw [g_3_1, sb, mL1, mL1, i2, q1, s32, if_pos (by rw [le32 (by omega) (by omega) (by omega) (by omega)]; omega), hk]; rfl
    | succ d ih =>
      intro k hrk hk
      rw [iter_inl (x' := (i32 ((k + 1 : Nat) : Int), M h (mL (mL s 4 (shf (s.2 4) 0 r (k + 1))) 5 (shf (s.2 5) 0 r (k + 1)))))]
      · exact ih (k + 1) (by omega) (by omega)
      · unfold fLX8_drop_2
        rw [g_3_1, sb, mL1, mL1, i2, q1, s32, if_neg (by rw [le32 (by omega) (by omega) (by omega) (by omega)]; omega)]
        simp only [g_3_2, g_3_3, sb, a32, a_4 (show (0 : Int) ≤ (k : Int) + 1 by omega) (show (k : Int) + 1 < 12 by omega), s_4 (show (0 : Int) ≤ (k : Int) by omega) (show (k : Int) < 12 by omega), a_5 (show (0 : Int) ≤ (k : Int) + 1 by omega) (show (k : Int) + 1 < 12 by omega), s_5 (show (0 : Int) ≤ (k : Int) by omega) (show (k : Int) < 12 by omega), tn0, tn1, xlet_eq, mL_at, mL_ne (show (4 : Nat) ≠ 5 by decide), mL_ne (show (5 : Nat) ≠ 4 by decide)]
        have e4 := shf_up (s.2 4) 0 r k hrk
        have e5 := shf_up (s.2 5) 0 r k hrk
        rw [Nat.zero_add] at e4 e5
        rw [e4, e5]
        refine congrArg (fun x => some (Sum.inl (i32 ((k : Int) + 1), M h x))) ?_
        unfold mL
        refine Prod.ext rfl ?_
        funext a
        by_cases c5 : a = 5
        · simp [c5]
        · by_cases c4 : a = 4
          · simp [c4]
          · simp [c5, c4]
  have hstart : mL (mL s 4 (shf (s.2 4) 0 r r)) 5 (shf (s.2 5) 0 r r) = s := by
    rw [shf_0, shf_0]
    unfold mL
    refine Prod.ext rfl ?_
    funext a
    by_cases c5 : a = 5
    · simp [c5]
    · by_cases c4 : a = 4
      · simp [c4]
      · simp [c5, c4]
  have key := key (nr S - 1 - r) r (Nat.le_refl _) (by omega)
  rw [hstart] at key
  have hshf : ∀ (f : Nat → Int64) (k : Nat), k < nr S - 1 → shf f 0 r (nr S - 1) k = f (if k < r then k else k + 1) := by
    intro f k hk
    unfold shf
    by_cases c : k < r
    · rw [if_neg (by omega), if_pos c]
    · rw [if_pos (by omega), if_neg c]
  unfold fX8_drop
  simp only [key, sb, g_3_1, mL1, i2, q1, s32, w_3_1, g_3_6, mI_at, upd_ne (show (6 : Nat) ≠ 1 by decide), w_3_6, mI_mI]
  refine ⟨_, rfl, ⟨?_, ?_, ?_, ?_, ?_, ?_⟩, ?_, ?_, ?_⟩
  · rw [mI_at, upd_ne (by decide), upd_ne (by decide)]; exact i1
  · rw [mI_at, upd_ne (by decide), upd_at, dropR_nr hr]
    congr 1
    omega
  · intro k hk
    rw [dropR_nr hr] at hk
    rw [mI2, mL_ne (by decide), mL_at, hshf _ k hk, (dropR_get hr hk).1]
    exact i3 _ (by split <;> omega)
  · intro k hk
    rw [dropR_nr hr] at hk
    rw [mI2, mL_at, hshf _ k hk, (dropR_get hr hk).2]
    exact i4 _ (by split <;> omega)
  · intro x hx
    rw [mI_ne (by decide)]
    exact i5 x hx
  · intro x hx
    rw [mI_ne (by decide)]
    exact i6 x hx
  · exact ((Fr.rf.mL (by decide) (by decide)).mL (by decide) (by decide)).mI (by decide) (by decide)
  · rw [mI_at, upd_at]
  · intro j h1 h2
    rw [mI_at, upd_ne h2, upd_ne h1]
end CC
