/-! LEAST WEIGHTS: row i tells the weights of the letters by figures to the base of five; the first row by which all weigh less -/
def dg (n i x : Nat) : Nat := (i / 5 ^ (n - 1 - x)) % 5 + 1
def lsA (S : Sys) (i : Nat) : Bool := ((List.range (nr S)).find? (fun r => decide (¬ ((rr S r).map (dg S.1 i)).sum < ((rl S r).map (dg S.1 i)).sum))).isNone
def lsI (S : Sys) : Option Nat := (List.range (5 ^ S.1)).find? (lsA S)
theorem dg_b (n i x : Nat) : 1 ≤ dg n i x ∧ dg n i x ≤ 5 := by
  unfold dg; omega
theorem dg_pre {n i x : Nat} (hx : x < n) : dg (n + 1) i x = dg n (i / 5) x := by
  unfold dg
  rw [show n + 1 - 1 - x = (n - 1 - x) + 1 by omega, Nat.pow_succ', Nat.div_div_eq_div_mul]
theorem dg_last (n i : Nat) : dg (n + 1) i n = i % 5 + 1 := by
  unfold dg
  rw [show n + 1 - 1 - n = 0 by omega, Nat.pow_zero, Nat.div_one]
theorem map_eq {f g : Nat → Nat} {w : List Nat} (h : ∀ x ∈ w, f x = g x) : w.map f = w.map g := List.map_congr_left h
section CC
variable {h : Nat} {s : Mm} {S : Sys} {w : List Nat}
theorem c_allLess (hS : WfS S) (hR : RS s 3 S) {i : Nat} (hd : ∀ x, x < S.1 → s.1 8 x = i32 (dg S.1 i x : Int)) : fX8_allWeighLess (M h s) (h + 3) = some (if lsA S i = true then 1 else 0) := by
  have h12 := hS.2.1
  have hK := hS.1.2
  have hsum : ∀ w : List Nat, Wk S.1 w → fX8_weighBy (M h s) (h + 8) (i64 (cw w : Int)) = some (i32 (((w.map (dg S.1 i)).sum : Nat) : Int)) ∧ (w.map (dg S.1 i)).sum ≤ 80 := by
    intro w hw
    have h1 := sum_le (f := dg S.1 i) (c := 5) (w := w) (fun x _ => (dg_b _ _ x).2)
    have h2 := hw.1
    refine ⟨?_, by omega⟩
    have e : w.map (dg S.1 i) = w.map (fun x => (s.1 8 x).toInt.toNat) := map_eq (fun x hx => by
      have hb := dg_b S.1 i x
      rw [hd x (hw.2 x hx), t32 (by omega) (by omega)]; rfl)
    have hW := hw.ww hK
    have h16 := hW.1
    unfold fX8_weighBy
    rw [c_l hW, xlet_eq, loop_fold (fun a k => a + dg S.1 i (w.getD k 0)) (fun a k => (i32 ((a : Nat) : Int), i32 (k : Int))) (fun a => i32 ((a : Nat) : Int)) w.length ?_ ?_ (a := 0) (show ((0 : Int32), (0 : Int32)) = _ from rfl), sb, fold_sum, Nat.zero_add]
    · intro a k hk
      have hl := getD_lt hw.2 hk
      unfold fLX8_weighBy_12
      rw [if_neg (by rw [le32 (by omega) (by omega) (by omega) (by omega)]; omega), c_raw hW hk, xlet_eq, if_neg (by rw [q0]; rw [lt32 (by omega) (by omega) (by omega) (by omega)]; omega), if_neg (by rw [q5]; rw [le32 (by omega) (by omega) (by omega) (by omega)]; omega), a_8 (by omega) (by omega), tn0, sb, hd _ hl, xlet_eq, xlet_eq, q1, a32, a32]
      rfl
    · intro a
      unfold fLX8_weighBy_12
      rw [if_pos (by rw [le32 (by omega) (by omega) (by omega) (by omega)]; omega)]
  unfold fX8_allWeighLess lsA
  rw [loop_find (fun r => decide (¬ ((rr S r).map (dg S.1 i)).sum < ((rl S r).map (dg S.1 i)).sum)) (fun r => i32 (r : Int)) (.inr ()) (fun _ => .inl ()) (nr S) ?_ ?_ (show (0 : Int32) = _ from rfl), sb]
  · cases (List.range (nr S)).find? (fun r => decide (¬ ((rr S r).map (dg S.1 i)).sum < ((rl S r).map (dg S.1 i)).sum)) <;> rfl
  · intro r hr
    obtain ⟨a1, a2⟩ := hsum _ (hS.2.2.1 r hr).1
    obtain ⟨b1, b2⟩ := hsum _ (hS.2.2.1 r hr).2.1
    unfold fLX8_allWeighLess_2
    rw [g_3_1, sb, hR.2.1, if_neg (by rw [le32 (by omega) (by omega) (by omega) (by omega)]; omega), g_3_7, sb, g_3_2, sb, rdl hS hR hr, sb, a1, sb, sb, g_3_3, sb, rdr hS hR hr, sb, b1, sb]
    by_cases c : ((rr S r).map (dg S.1 i)).sum < ((rl S r).map (dg S.1 i)).sum
    · rw [if_pos (by rw [lt32 (by omega) (by omega) (by omega) (by omega)]; omega), xlet_eq, q1, a32, if_neg (by simp [c])]; rfl
    · rw [if_neg (by rw [lt32 (by omega) (by omega) (by omega) (by omega)]; omega), if_pos (decide_eq_true c)]
  · unfold fLX8_allWeighLess_2
    rw [g_3_1, sb, hR.2.1, if_pos (by rw [le32 (by omega) (by omega) (by omega) (by omega)]; omega)]
theorem c_nextRow : ∀ (n i : Nat) (s : Mm), n ≤ 5 → (∀ x, x < n → s.1 8 x = i32 (dg n i x : Int)) → ∃ f : Nat → Int32, ((iterP (fLX8_goToNextRow_7 (h + 3)) (i32 ((n : Int) - 1), M h s)).bind fun b7 => (match b7 with
      | .inl s7 => (gR s7.2 (h + 3) 8 7).bind fun v22 => (aI s7.2 v22 0 s7.1).bind fun v27 => (sI s7.2 v22 s7.1 (v27 + 1)).bind fun σ30 => some σ30
      | .inr s7 => some s7)) = some (M h (mI s 8 f)) ∧ (∀ x, x < n → f x = i32 (dg n (i + 1) x : Int)) ∧ (∀ x, n ≤ x → f x = s.1 8 x) := by
  intro n
  have hid : ∀ s : Mm, mI s 8 (s.1 8) = s := by
    intro s
    unfold mI
    refine Prod.ext ?_ rfl
    funext a
    by_cases c5 : a = 8
    · simp [c5]
    · simp [c5]
  induction n with
  | zero =>
    intro i s _ _
    refine ⟨s.1 8, ?_, fun x hx => absurd hx (by omega), fun x _ => rfl⟩
    rw [iterP_eq]
    unfold fLX8_goToNextRow_7
    rw [if_pos (by rw [q0]; rw [lt32 (by omega) (by omega) (by omega) (by omega)]; omega), hid]; rfl
  | succ n ih =>
    intro i s hn hd
    have hl := hd n (by omega)
    rw [dg_last] at hl
    have hbody : fLX8_goToNextRow_7 (h + 3) (i32 (((n + 1 : Nat) : Int) - 1), M h s) = if 5 ≤ i % 5 + 1 then some (.inl (i32 ((n : Int) - 1), M h (mI s 8 (upd (s.1 8) n 1)))) else some (.inr (.inl (i32 (n : Int), M h s))) := by
      unfold fLX8_goToNextRow_7
      rw [show (((n + 1 : Nat) : Int) - 1) = (n : Int) by omega, if_neg (by rw [q0]; rw [lt32 (by omega) (by omega) (by omega) (by omega)]; omega), g_3_7, sb, a_8 (by omega) (by omega), tn0, sb, hl]
      by_cases c : 5 ≤ i % 5 + 1
      · rw [if_pos (by rw [q5]; rw [le32 (by omega) (by omega) (by omega) (by omega)]; omega), if_pos c, sb, s_8 (by omega) (by omega), sb, tn0, xlet_eq, qm1, a32]; rfl
      · rw [if_neg (by rw [q5]; rw [le32 (by omega) (by omega) (by omega) (by omega)]; omega), if_neg c]
    by_cases c : 5 ≤ i % 5 + 1
    · rw [if_pos c] at hbody
      obtain ⟨f, z1, z2, z3⟩ := ih (i / 5) (mI s 8 (upd (s.1 8) n 1)) (by omega) (fun x hx => by
        rw [mI_at, upd_ne (by omega), hd x (by omega), dg_pre hx])
      refine ⟨f, ?_, ?_, ?_⟩
      · rw [iter_inl hbody, z1, mI_mI]
      · intro x hx
        by_cases cx : x = n
        · subst cx
          rw [z3 x (Nat.le_refl _), mI_at, upd_at, dg_last, show (i + 1) % 5 = 0 by omega]; rfl
        · rw [z2 x (by omega), dg_pre (by omega), show (i + 1) / 5 = i / 5 + 1 by omega]
      · intro x hx
        rw [z3 x (by omega), mI_at, upd_ne (by omega)]
    · rw [if_neg c] at hbody
      refine ⟨upd (s.1 8) n (i32 ((i % 5 + 1 : Nat) : Int) + 1), ?_, ?_, ?_⟩
      · rw [iterP_eq, hbody, sb]
        simp only [sb]
        rw [g_3_7, sb, a_8 (by omega) (by omega), sb, tn0, hl, s_8 (by omega) (by omega), sb, tn0]
      · intro x hx
        by_cases cx : x = n
        · subst cx
          rw [upd_at, q1, a32, dg_last, show (i + 1) % 5 = i % 5 + 1 by omega]; rfl
        · rw [upd_ne cx, hd x hx, dg_pre (by omega), dg_pre (by omega), show (i + 1) / 5 = i / 5 by omega]
      · intro x hx
        rw [upd_ne (by omega)]
theorem dg_0 (n x : Nat) : dg n 0 x = 1 := by
  unfold dg
  rw [Nat.zero_div]
theorem p5 {n : Nat} (hn : n ≤ 5) : 5 ^ n ≤ 3125 := Nat.le_trans (Nat.pow_le_pow_right (by decide) hn) (by decide)
/-- what the class keeps of least weights -/
def LW (S : Sys) (f : Nat → Int32) : Prop := match lsI S with
  | some i => ∀ x, x < S.1 → f x = i32 (dg S.1 i x : Int)
  | none => f 0 = i32 (-1)
theorem c_findLeast (hS : WfS S) (hR : RS s 3 S) : ∃ f : Nat → Int32, fX8_findLeast (M h s) (h + 3) = some (M h (mI s 8 f)) ∧ LW S f := by
  have hK := hS.1.2
  have hK1 := hS.1.1
  have hp := p5 hK
  obtain ⟨f0, f1, f2⟩ := c_fill (h := h) (s := s) sh_8 (by decide) (by decide) 1
  have hR0 : ∀ f : Nat → Int32, RS (mI s 8 f) 3 S := fun f => ⟨by rw [mI_ne (by decide)]; exact hR.1, by rw [mI_ne (by decide)]; exact hR.2.1, hR.2.2.1, hR.2.2.2.1, fun x hx => by rw [mI_ne (by decide)]; exact hR.2.2.2.2.1 x hx, fun x hx => by rw [mI_ne (by decide)]; exact hR.2.2.2.2.2 x hx⟩
  have hrows : iterP (fLX8_findLeast_12 (M h (mI s 8 f0)) (h + 3)) (1, 0) = some (i32 ((5 ^ S.1 : Nat) : Int)) := by
    rw [iter_to S.1 (fun k => (i32 ((5 ^ k : Nat) : Int), i32 (k : Int))) (show ((1 : Int32), (0 : Int32)) = _ from rfl) ?_ ?_ (b := i32 ((5 ^ S.1 : Nat) : Int))]
    · intro k hk
      unfold fLX8_findLeast_12
      rw [g_3_0, sb, (hR0 f0).1, if_neg (by rw [le32 (by omega) (by omega) (by omega) (by omega)]; omega), xlet_eq, xlet_eq, q5, m32, q1, a32, Nat.pow_succ]; rfl
    · unfold fLX8_findLeast_12
      rw [g_3_0, sb, (hR0 f0).1, if_pos (by rw [le32 (by omega) (by omega) (by omega) (by omega)]; omega)]
  obtain ⟨y, k1, k2⟩ := loop_rel (F := fLX8_findLeast_32 (h + 3) (i32 ((5 ^ S.1 : Nat) : Int))) (fun (_ : Unit) i => if lsA S i = true then .inr i else .inl ())
    (fun _ i x => ∃ f : Nat → Int32, x = (i32 (i : Int), M h (mI s 8 f)) ∧ ∀ x, x < S.1 → f x = i32 (dg S.1 i x : Int)) (fun _ y => ∃ f : Nat → Int32, y = .inr (M h (mI s 8 f))) (fun i y => ∃ f : Nat → Int32, y = .inl (M h (mI s 8 f)) ∧ ∀ x, x < S.1 → f x = i32 (dg S.1 i x : Int)) (5 ^ S.1) (by
      rintro a i x hi ⟨f, rfl, hf⟩
      have hal := c_allLess (h := h) hS (hR0 f) (i := i) (fun x hx => by rw [mI_at]; exact hf x hx)
      unfold fLX8_findLeast_32
      rw [if_neg (by rw [le32 (by omega) (by omega) (by omega) (by omega)]; omega), o_3, sb, hal, sb]
      by_cases c : lsA S i = true
      · rw [if_pos c, if_neg (by decide), if_pos c]
        exact ⟨_, rfl, _, rfl, f, rfl, hf⟩
      · obtain ⟨g, g1, g2, g3⟩ := c_nextRow (h := h) S.1 i (mI s 8 f) hK (fun x hx => by rw [mI_at]; exact hf x hx)
        have hgo : fX8_goToNextRow (M h (mI s 8 f)) (h + 3) = some (M h (mI s 8 g)) := by
          unfold fX8_goToNextRow
          rw [g_3_0, sb, (hR0 f).1, q1, s32, xlet_eq]
          rw [mI_mI] at g1
          exact g1
        rw [if_neg c, if_pos rfl, sb, hgo, sb, xlet_eq, q1, a32, if_neg c]
        exact ⟨_, rfl, _, rfl, g, rfl, g2⟩) (by
      rintro a x ⟨f, rfl, hf⟩
      unfold fLX8_findLeast_32
      rw [if_pos (show i32 ((5 ^ S.1 : Nat) : Int) ≤ i32 ((5 ^ S.1 : Nat) : Int) from by rw [Int32.le_iff_toInt_le]; exact Int.le_refl _)]
      exact ⟨_, rfl, f, rfl⟩) (a := ()) (x := (0, M h (mI s 8 f0))) ⟨f0, rfl, fun x hx => by rw [f2 x (by omega), dg_0]; rfl⟩
  rw [walk_find (lsA S)] at k2
  unfold fX8_findLeast
  rw [g_3_7, sb, f1, sb, hrows, sb, k1, sb]
  have hlsI : lsI S = (List.range (5 ^ S.1)).find? (lsA S) := rfl
  cases hf : (List.range (5 ^ S.1)).find? (lsA S) with
  | none =>
    rw [hf] at k2 hlsI
    obtain ⟨f, rfl⟩ := k2
    refine ⟨upd f 0 (-1), ?_, ?_⟩
    · simp only []
      rw [g_3_7, sb, q0, s_8 (by decide) (by decide), sb, mI_mI, mI_at]; rfl
    · unfold LW
      rw [hlsI]
      simp only []
      rw [upd_at, qm1]
  | some i =>
    rw [hf] at k2 hlsI
    obtain ⟨f, rfl, k3⟩ := k2
    refine ⟨f, rfl, ?_⟩
    unfold LW
    rw [hlsI]
    exact k3
/-- the weight of a letter by least weights -/
def lsW (S : Sys) (x : Nat) : Int := match lsI S with
  | some i => (dg S.1 i x : Int)
  | none => -1
theorem c_leastOf (hS : WfS S) (hR : RS s 3 S) {x : Nat} (hx : x < S.1) (hc : s.1 3 8 = s.1 3 6 → LW S (s.1 8)) : ∃ s' : Mm, fX8_leastOf (M h s) (h + 3) (i32 (x : Int)) = some (i32 (lsW S x), M h s') ∧ s'.2 = s.2 ∧ (∀ i, i ≠ 3 → i ≠ 8 → s'.1 i = s.1 i) ∧ (∀ j, j ≠ 8 → s'.1 3 j = s.1 3 j) ∧ s'.1 3 8 = s.1 3 6 ∧ LW S (s'.1 8) := by
  have hK := hS.1.2
  have hfin : ∀ s1 : Mm, LW S (s1.1 8) → fJX8_leastOf_m_23 (M h s1) (h + 3) (i32 (x : Int)) = some (i32 (lsW S x), M h s1) := by
    intro s1 hL
    have ea : aI (M h s1) (h + 8) 0 0 = some (s1.1 8 0) := by
      have := a_8 (h := h) (s := s1) (e := 0) (by decide) (by decide)
      exact this
    unfold fJX8_leastOf_m_23 lsW
    unfold LW at hL
    rw [g_3_7, sb, ea, sb]
    cases hl : lsI S with
    | none =>
      rw [hl] at hL
      have hL : s1.1 8 0 = i32 (-1) := hL
      rw [hL, if_pos (show i32 (-1) = -1 from by decide)]; rfl
    | some i =>
      rw [hl] at hL
      have hL : ∀ x, x < S.1 → s1.1 8 x = i32 (dg S.1 i x : Int) := hL
      have hb := dg_b S.1 i 0
      rw [hL 0 (by omega), if_neg (by rw [qm1]; rw [eq32 (by omega) (by omega) (by omega) (by omega)]; omega), sb, a_8 (by omega) (by omega), tn0, sb, hL x hx]
  unfold fX8_leastOf
  rw [g_3_8, sb, g_3_6, sb]
  by_cases c : s.1 3 8 = s.1 3 6
  · rw [if_pos c]
    exact ⟨s, hfin s (hc c), rfl, fun _ _ _ => rfl, fun _ _ => rfl, c, hc c⟩
  · rw [if_neg c, sb, w_3_8, sb, o_3, sb]
    have hR' : RS (mI s 3 (upd (s.1 3) 8 (s.1 3 6))) 3 S := ⟨by rw [mI_at, upd_ne (by decide)]; exact hR.1, by rw [mI_at, upd_ne (by decide)]; exact hR.2.1, hR.2.2.1, hR.2.2.2.1, fun x hx => by rw [mI_ne (by decide)]; exact hR.2.2.2.2.1 x hx, fun x hx => by rw [mI_ne (by decide)]; exact hR.2.2.2.2.2 x hx⟩
    obtain ⟨f, z1, z2⟩ := c_findLeast (h := h) hS hR'
    rw [z1, sb]
    refine ⟨_, hfin _ (by rw [mI_at]; exact z2), rfl, fun i h1 h2 => by rw [mI_ne h2, mI_ne h1], fun j hj => by rw [mI_ne (by decide), mI_at, upd_ne hj], by rw [mI_ne (by decide), mI_at, upd_at], by rw [mI_at]; exact z2⟩
/-! the reference's -/
theorem r_tried {f : Nat → Nat} (hf : ∀ x, x < S.1 → s.1 320 x = i32 (f x : Int)) (hK : S.1 ≤ 5) (hw : Wk S.1 w) : fX12_tried (M h s) (h + 308) (i64 (r6 w : Int)) = some (i32 (((w.map f).sum : Nat) : Int)) := by
  have hW := hw.ww hK
  have hb := r6_16 hW
  have h16 := hW.1
  unfold fX12_tried
  rw [loop_fold (fun a k => a + f (w.getD (w.length - 1 - k) 0)) (fun a k => (i32 ((a : Nat) : Int), i64 ((r6 w / 6 ^ k : Nat) : Int))) (fun a => i32 ((a : Nat) : Int)) w.length ?_ ?_ (a := 0) (by rw [Nat.pow_zero, Nat.div_one]; rfl), sb, fold_rev, Nat.zero_add]
  · intro a k hk
    obtain ⟨h1, h2, h3⟩ := r6_step hW hk
    have h4 := Nat.div_le_self (r6 w) (6 ^ k)
    have hx := hw.2 _ (List.getElem_mem (show w.length - 1 - k < w.length by omega))
    have hg : w.getD (w.length - 1 - k) 0 = w[w.length - 1 - k] := by
      rw [List.getD_eq_getElem?_getD, List.getElem?_eq_getElem (by omega)]; rfl
    unfold fLX12_tried_5
    rw [if_neg (by rw [cmple, t64 (by omega) (by omega)]; simp only [Int64.toInt_zero]; omega), g_308_35, sb]
    simp only []
    rw [Q6n, rem64 (by omega) (by decide), h3, toI, q1, s32, a_320 (by omega) (by omega), sb, xlet_eq, xlet_eq, div64 (by omega) (by decide), h2]
    rw [show (((w[w.length - 1 - k] + 1 : Nat) : Int) - 1).toNat = w[w.length - 1 - k] by omega, hf _ hx, a32, hg]; rfl
  · intro a
    unfold fLX12_tried_5
    rw [r6_end hW, if_pos (by show lg_cmp (i64 ((0 : Nat) : Int)) 0 ≤ 0; decide)]
theorem r_doAll (hS : WfS S) (hR : RR (s.2 309) S) {i : Nat} (hd : ∀ x, x < S.1 → s.1 320 x = i32 (dg S.1 i x : Int)) : fX12_doAllFall (M h s) (h + 308) = some (if lsA S i = true then 1 else 0) := by
  have h12 := hS.2.1
  have hK := hS.1.2
  have hsum : ∀ w : List Nat, Wk S.1 w → (w.map (dg S.1 i)).sum ≤ 80 := by
    intro w hw
    have h1 := sum_le (f := dg S.1 i) (c := 5) (w := w) (fun x _ => (dg_b _ _ x).2)
    have h2 := hw.1
    omega
  unfold fX12_doAllFall lsA
  rw [loop_find (fun r => decide (¬ ((rr S r).map (dg S.1 i)).sum < ((rl S r).map (dg S.1 i)).sum)) (fun r => i32 (r : Int)) (.inr ()) (fun _ => .inl ()) (nr S) ?_ ?_ (show (0 : Int32) = _ from rfl), sb]
  · cases (List.range (nr S)).find? (fun r => decide (¬ ((rr S r).map (dg S.1 i)).sum < ((rl S r).map (dg S.1 i)).sum)) <;> rfl
  · intro r hr
    have a2 := hsum _ (hS.2.2.1 r hr).1
    have b2 := hsum _ (hS.2.2.1 r hr).2.1
    unfold fLX12_doAllFall_2
    rw [o_308, sb, r_rules hR, sb, if_neg (by rw [le32 (by omega) (by omega) (by omega) (by omega)]; omega), sb, r_left hS hR hr, sb, sb, r_tried hd hK (hS.2.2.1 r hr).1, sb, sb, r_right hS hR hr, sb, sb, r_tried hd hK (hS.2.2.1 r hr).2.1, sb]
    by_cases c : ((rr S r).map (dg S.1 i)).sum < ((rl S r).map (dg S.1 i)).sum
    · rw [if_pos (by rw [lt32 (by omega) (by omega) (by omega) (by omega)]; omega), xlet_eq, q1, a32, if_neg (by simp [c])]; rfl
    · rw [if_neg (by rw [lt32 (by omega) (by omega) (by omega) (by omega)]; omega), if_pos (decide_eq_true c)]
  · unfold fLX12_doAllFall_2
    rw [o_308, sb, r_rules hR, sb, if_pos (by rw [le32 (by omega) (by omega) (by omega) (by omega)]; omega)]
/-- the first row of those that begin with i, of m figures more -/
def fst5 (S : Sys) : Nat → Nat → Option Nat
  | 0, i => if lsA S i = true then some i else none
  | m + 1, i => (List.range 5).findSome? (fun v => fst5 S m (i * 5 + v))
/-- k figures are told, they are i; m are left -/
def WQ (S : Sys) (m k i : Nat) (s : Mm) : Prop := RR (s.2 309) S ∧ k + m = S.1 ∧ ∀ x, x < k → s.1 320 x = i32 (dg k i x : Int)
def WR {h : Nat} (S : Sys) (m i : Nat) (s : Mm) (o : Option (Int32 × St)) : Prop := ∃ f : Nat → Int32, o = some (if (fst5 S m i).isSome = true then 1 else 0, M h (mI s 320 f)) ∧ (∀ r, fst5 S m i = some r → ∀ x, x < S.1 → f x = i32 (dg S.1 r x : Int)) ∧ (∀ x, x < S.1 - m → f x = s.1 320 x)
def gfs {R : Type} (F : Nat → Option R) (_ : Unit) (t : Nat) : Unit ⊕ R := match F t with
  | some r => .inr r
  | none => .inl ()
abbrev ofs {R : Type} (o : Option R) : Unit ⊕ R := match o with
  | some r => .inr r
  | none => .inl ()
theorem walk_fs {R : Type} (F : Nat → Option R) (l : List Nat) : walk (gfs F) () l = ofs (l.findSome? F) := by
  induction l with
  | nil => rfl
  | cons x l ih =>
    simp only [walk, List.findSome?_cons]
    unfold gfs
    cases F x with
    | none => exact ih
    | some r => rfl
theorem mI_id (s : Mm) (i : Nat) : mI s i (s.1 i) = s := by
  unfold mI
  refine Prod.ext ?_ rfl
  funext a
  by_cases c5 : a = i
  · simp [c5]
  · simp [c5]
theorem r_weighs_0 (hS : WfS S) : ∀ (m k i : Nat) (s : Mm), m ≤ 0 → WQ S m k i s → WR (h := h) S m i s (fX12_weighs_d0 (M h s) (h + 308) (i32 (k : Int))) := by
  intro m k i s hm hQ
  obtain ⟨h1, h2, h3⟩ := hQ
  have hK := hS.1.2
  cases m with
  | zero =>
    have hk : k = S.1 := by omega
    subst hk
    refine ⟨s.1 320, ?_, ?_, fun x _ => rfl⟩
    · unfold fX12_weighs_d0
      rw [o_308, sb, r_letters h1, sb, if_pos rfl, sb, r_doAll hS h1 h3, sb, mI_id]
      by_cases c : lsA S i = true
      · rw [if_pos c, show zok (1 : Int32) = some 1 from by decide, sb]
        unfold fst5
        rw [if_pos c]; rfl
      · rw [if_neg c, show zok (0 : Int32) = some 0 from by decide, sb]
        unfold fst5
        rw [if_neg c]; rfl
    · intro r hr x hx
      unfold fst5 at hr
      split at hr
      · cases hr; exact h3 x hx
      · cases hr
  | succ m =>
    exact absurd hm (by omega)
theorem r_weighs_1 (hS : WfS S) : ∀ (m k i : Nat) (s : Mm), m ≤ 1 → WQ S m k i s → WR (h := h) S m i s (fX12_weighs_d1 (M h s) (h + 308) (i32 (k : Int))) := by
  intro m k i s hm hQ
  obtain ⟨h1, h2, h3⟩ := hQ
  have hK := hS.1.2
  cases m with
  | zero =>
    have hk : k = S.1 := by omega
    subst hk
    refine ⟨s.1 320, ?_, ?_, fun x _ => rfl⟩
    · unfold fX12_weighs_d1
      rw [o_308, sb, r_letters h1, sb, if_pos rfl, sb, r_doAll hS h1 h3, sb, mI_id]
      by_cases c : lsA S i = true
      · rw [if_pos c, show zok (1 : Int32) = some 1 from by decide, sb]
        unfold fst5
        rw [if_pos c]; rfl
      · rw [if_neg c, show zok (0 : Int32) = some 0 from by decide, sb]
        unfold fst5
        rw [if_neg c]; rfl
    · intro r hr x hx
      unfold fst5 at hr
      split at hr
      · cases hr; exact h3 x hx
      · cases hr
  | succ m =>
    obtain ⟨y, k1, k2⟩ := loop_rel (F := fLX12_weighs_d1_15 (h + 308) (i32 (k : Int))) (gfs (fun t => fst5 S m (i * 5 + t))) (fun _ t x => ∃ f : Nat → Int32, x = (i32 ((t : Int) + 1), M h (mI s 320 f)) ∧ ∀ x, x < k → f x = s.1 320 x) (fun _ y => ∃ f : Nat → Int32, y = .inr (M h (mI s 320 f)) ∧ ∀ x, x < k → f x = s.1 320 x) (fun r y => ∃ f : Nat → Int32, y = .inl (M h (mI s 320 f)) ∧ (∀ x, x < S.1 → f x = i32 (dg S.1 r x : Int)) ∧ ∀ x, x < k → f x = s.1 320 x) 5 (by
      rintro a t x ht ⟨f, rfl, hf⟩
      obtain ⟨f', e1, e2, e3⟩ := r_weighs_0 hS m (k + 1) (i * 5 + t) (mI s 320 (upd f k (i32 ((t : Int) + 1)))) (by omega) ⟨h1, by omega, fun x hx => by
        rw [mI_at]
        by_cases cx : x = k
        · subst cx
          rw [upd_at, dg_last, show (i * 5 + t) % 5 = t by omega]; rfl
        · rw [upd_ne cx, hf x (by omega), h3 x (by omega), dg_pre (by omega), show (i * 5 + t) / 5 = i by omega]⟩
      rw [mI_mI] at e1
      have e3' : ∀ x, x < k → f' x = s.1 320 x := fun x hx => by
        rw [e3 x (by omega), mI_at, upd_ne (by omega), hf x hx]
      unfold fLX12_weighs_d1_15
      rw [if_neg (by rw [q5]; rw [lt32 (by omega) (by omega) (by omega) (by omega)]; omega), g_308_35, sb, s_320 (by omega) (by omega), sb, tn0, mI_mI, mI_at, o_308, sb, q1, a32, show ((k : Int) + 1) = ((k + 1 : Nat) : Int) from rfl, e1, sb]
      rw [show gfs (fun t => fst5 S m (i * 5 + t)) a t = ofs (fst5 S m (i * 5 + t)) from rfl]
      cases hfs : fst5 S m (i * 5 + t) with
      | none =>
        rw [if_neg (show ¬ (none : Option Nat).isSome = true from by decide), if_pos (show (0 : Int32) = 0 from rfl), xlet_eq, a32]
        exact ⟨_, rfl, _, rfl, f', rfl, e3'⟩
      | some r =>
        rw [if_pos (show (some r).isSome = true from rfl), if_neg (by show ¬ (1 : Int32) = 0; decide)]
        exact ⟨_, rfl, _, rfl, f', rfl, e2 r hfs, e3'⟩) (by
      rintro a x ⟨f, rfl, hf⟩
      unfold fLX12_weighs_d1_15
      rw [if_pos (by rw [q5]; rw [lt32 (by omega) (by omega) (by omega) (by omega)]; omega)]
      exact ⟨_, rfl, f, rfl, hf⟩) (a := ()) (x := (1, M h s)) ⟨s.1 320, by rw [mI_id]; rfl, fun x _ => rfl⟩
    rw [walk_fs] at k2
    have hfs : fst5 S (m + 1) i = (List.range 5).findSome? (fun v => fst5 S m (i * 5 + v)) := rfl
    unfold fX12_weighs_d1
    rw [o_308, sb, r_letters h1, sb, if_neg (by rw [eq32 (by omega) (by omega) (by omega) (by omega)]; omega), k1, sb]
    cases hff : (List.range 5).findSome? (fun v => fst5 S m (i * 5 + v)) with
    | none =>
      rw [hff] at k2 hfs
      obtain ⟨f, rfl, k3⟩ := k2
      refine ⟨f, by rw [hfs]; rfl, fun r hr => (by rw [hfs] at hr; cases hr), fun x hx => k3 x (by omega)⟩
    | some r0 =>
      rw [hff] at k2 hfs
      obtain ⟨f, rfl, k3, k4⟩ := k2
      refine ⟨f, by rw [hfs]; rfl, fun r hr => (by rw [hfs] at hr; cases hr; exact k3), fun x hx => k4 x (by omega)⟩
theorem r_weighs_2 (hS : WfS S) : ∀ (m k i : Nat) (s : Mm), m ≤ 2 → WQ S m k i s → WR (h := h) S m i s (fX12_weighs_d2 (M h s) (h + 308) (i32 (k : Int))) := by
  intro m k i s hm hQ
  obtain ⟨h1, h2, h3⟩ := hQ
  have hK := hS.1.2
  cases m with
  | zero =>
    have hk : k = S.1 := by omega
    subst hk
    refine ⟨s.1 320, ?_, ?_, fun x _ => rfl⟩
    · unfold fX12_weighs_d2
      rw [o_308, sb, r_letters h1, sb, if_pos rfl, sb, r_doAll hS h1 h3, sb, mI_id]
      by_cases c : lsA S i = true
      · rw [if_pos c, show zok (1 : Int32) = some 1 from by decide, sb]
        unfold fst5
        rw [if_pos c]; rfl
      · rw [if_neg c, show zok (0 : Int32) = some 0 from by decide, sb]
        unfold fst5
        rw [if_neg c]; rfl
    · intro r hr x hx
      unfold fst5 at hr
      split at hr
      · cases hr; exact h3 x hx
      · cases hr
  | succ m =>
    obtain ⟨y, k1, k2⟩ := loop_rel (F := fLX12_weighs_d2_15 (h + 308) (i32 (k : Int))) (gfs (fun t => fst5 S m (i * 5 + t))) (fun _ t x => ∃ f : Nat → Int32, x = (i32 ((t : Int) + 1), M h (mI s 320 f)) ∧ ∀ x, x < k → f x = s.1 320 x) (fun _ y => ∃ f : Nat → Int32, y = .inr (M h (mI s 320 f)) ∧ ∀ x, x < k → f x = s.1 320 x) (fun r y => ∃ f : Nat → Int32, y = .inl (M h (mI s 320 f)) ∧ (∀ x, x < S.1 → f x = i32 (dg S.1 r x : Int)) ∧ ∀ x, x < k → f x = s.1 320 x) 5 (by
      rintro a t x ht ⟨f, rfl, hf⟩
      obtain ⟨f', e1, e2, e3⟩ := r_weighs_1 hS m (k + 1) (i * 5 + t) (mI s 320 (upd f k (i32 ((t : Int) + 1)))) (by omega) ⟨h1, by omega, fun x hx => by
        rw [mI_at]
        by_cases cx : x = k
        · subst cx
          rw [upd_at, dg_last, show (i * 5 + t) % 5 = t by omega]; rfl
        · rw [upd_ne cx, hf x (by omega), h3 x (by omega), dg_pre (by omega), show (i * 5 + t) / 5 = i by omega]⟩
      rw [mI_mI] at e1
      have e3' : ∀ x, x < k → f' x = s.1 320 x := fun x hx => by
        rw [e3 x (by omega), mI_at, upd_ne (by omega), hf x hx]
      unfold fLX12_weighs_d2_15
      rw [if_neg (by rw [q5]; rw [lt32 (by omega) (by omega) (by omega) (by omega)]; omega), g_308_35, sb, s_320 (by omega) (by omega), sb, tn0, mI_mI, mI_at, o_308, sb, q1, a32, show ((k : Int) + 1) = ((k + 1 : Nat) : Int) from rfl, e1, sb]
      rw [show gfs (fun t => fst5 S m (i * 5 + t)) a t = ofs (fst5 S m (i * 5 + t)) from rfl]
      cases hfs : fst5 S m (i * 5 + t) with
      | none =>
        rw [if_neg (show ¬ (none : Option Nat).isSome = true from by decide), if_pos (show (0 : Int32) = 0 from rfl), xlet_eq, a32]
        exact ⟨_, rfl, _, rfl, f', rfl, e3'⟩
      | some r =>
        rw [if_pos (show (some r).isSome = true from rfl), if_neg (by show ¬ (1 : Int32) = 0; decide)]
        exact ⟨_, rfl, _, rfl, f', rfl, e2 r hfs, e3'⟩) (by
      rintro a x ⟨f, rfl, hf⟩
      unfold fLX12_weighs_d2_15
      rw [if_pos (by rw [q5]; rw [lt32 (by omega) (by omega) (by omega) (by omega)]; omega)]
      exact ⟨_, rfl, f, rfl, hf⟩) (a := ()) (x := (1, M h s)) ⟨s.1 320, by rw [mI_id]; rfl, fun x _ => rfl⟩
    rw [walk_fs] at k2
    have hfs : fst5 S (m + 1) i = (List.range 5).findSome? (fun v => fst5 S m (i * 5 + v)) := rfl
    unfold fX12_weighs_d2
    rw [o_308, sb, r_letters h1, sb, if_neg (by rw [eq32 (by omega) (by omega) (by omega) (by omega)]; omega), k1, sb]
    cases hff : (List.range 5).findSome? (fun v => fst5 S m (i * 5 + v)) with
    | none =>
      rw [hff] at k2 hfs
      obtain ⟨f, rfl, k3⟩ := k2
      refine ⟨f, by rw [hfs]; rfl, fun r hr => (by rw [hfs] at hr; cases hr), fun x hx => k3 x (by omega)⟩
    | some r0 =>
      rw [hff] at k2 hfs
      obtain ⟨f, rfl, k3, k4⟩ := k2
      refine ⟨f, by rw [hfs]; rfl, fun r hr => (by rw [hfs] at hr; cases hr; exact k3), fun x hx => k4 x (by omega)⟩
theorem r_weighs_3 (hS : WfS S) : ∀ (m k i : Nat) (s : Mm), m ≤ 3 → WQ S m k i s → WR (h := h) S m i s (fX12_weighs_d3 (M h s) (h + 308) (i32 (k : Int))) := by
  intro m k i s hm hQ
  obtain ⟨h1, h2, h3⟩ := hQ
  have hK := hS.1.2
  cases m with
  | zero =>
    have hk : k = S.1 := by omega
    subst hk
    refine ⟨s.1 320, ?_, ?_, fun x _ => rfl⟩
    · unfold fX12_weighs_d3
      rw [o_308, sb, r_letters h1, sb, if_pos rfl, sb, r_doAll hS h1 h3, sb, mI_id]
      by_cases c : lsA S i = true
      · rw [if_pos c, show zok (1 : Int32) = some 1 from by decide, sb]
        unfold fst5
        rw [if_pos c]; rfl
      · rw [if_neg c, show zok (0 : Int32) = some 0 from by decide, sb]
        unfold fst5
        rw [if_neg c]; rfl
    · intro r hr x hx
      unfold fst5 at hr
      split at hr
      · cases hr; exact h3 x hx
      · cases hr
  | succ m =>
    obtain ⟨y, k1, k2⟩ := loop_rel (F := fLX12_weighs_d3_15 (h + 308) (i32 (k : Int))) (gfs (fun t => fst5 S m (i * 5 + t))) (fun _ t x => ∃ f : Nat → Int32, x = (i32 ((t : Int) + 1), M h (mI s 320 f)) ∧ ∀ x, x < k → f x = s.1 320 x) (fun _ y => ∃ f : Nat → Int32, y = .inr (M h (mI s 320 f)) ∧ ∀ x, x < k → f x = s.1 320 x) (fun r y => ∃ f : Nat → Int32, y = .inl (M h (mI s 320 f)) ∧ (∀ x, x < S.1 → f x = i32 (dg S.1 r x : Int)) ∧ ∀ x, x < k → f x = s.1 320 x) 5 (by
      rintro a t x ht ⟨f, rfl, hf⟩
      obtain ⟨f', e1, e2, e3⟩ := r_weighs_2 hS m (k + 1) (i * 5 + t) (mI s 320 (upd f k (i32 ((t : Int) + 1)))) (by omega) ⟨h1, by omega, fun x hx => by
        rw [mI_at]
        by_cases cx : x = k
        · subst cx
          rw [upd_at, dg_last, show (i * 5 + t) % 5 = t by omega]; rfl
        · rw [upd_ne cx, hf x (by omega), h3 x (by omega), dg_pre (by omega), show (i * 5 + t) / 5 = i by omega]⟩
      rw [mI_mI] at e1
      have e3' : ∀ x, x < k → f' x = s.1 320 x := fun x hx => by
        rw [e3 x (by omega), mI_at, upd_ne (by omega), hf x hx]
      unfold fLX12_weighs_d3_15
      rw [if_neg (by rw [q5]; rw [lt32 (by omega) (by omega) (by omega) (by omega)]; omega), g_308_35, sb, s_320 (by omega) (by omega), sb, tn0, mI_mI, mI_at, o_308, sb, q1, a32, show ((k : Int) + 1) = ((k + 1 : Nat) : Int) from rfl, e1, sb]
      rw [show gfs (fun t => fst5 S m (i * 5 + t)) a t = ofs (fst5 S m (i * 5 + t)) from rfl]
      cases hfs : fst5 S m (i * 5 + t) with
      | none =>
        rw [if_neg (show ¬ (none : Option Nat).isSome = true from by decide), if_pos (show (0 : Int32) = 0 from rfl), xlet_eq, a32]
        exact ⟨_, rfl, _, rfl, f', rfl, e3'⟩
      | some r =>
        rw [if_pos (show (some r).isSome = true from rfl), if_neg (by show ¬ (1 : Int32) = 0; decide)]
        exact ⟨_, rfl, _, rfl, f', rfl, e2 r hfs, e3'⟩) (by
      rintro a x ⟨f, rfl, hf⟩
      unfold fLX12_weighs_d3_15
      rw [if_pos (by rw [q5]; rw [lt32 (by omega) (by omega) (by omega) (by omega)]; omega)]
      exact ⟨_, rfl, f, rfl, hf⟩) (a := ()) (x := (1, M h s)) ⟨s.1 320, by rw [mI_id]; rfl, fun x _ => rfl⟩
    rw [walk_fs] at k2
    have hfs : fst5 S (m + 1) i = (List.range 5).findSome? (fun v => fst5 S m (i * 5 + v)) := rfl
    unfold fX12_weighs_d3
    rw [o_308, sb, r_letters h1, sb, if_neg (by rw [eq32 (by omega) (by omega) (by omega) (by omega)]; omega), k1, sb]
    cases hff : (List.range 5).findSome? (fun v => fst5 S m (i * 5 + v)) with
    | none =>
      rw [hff] at k2 hfs
      obtain ⟨f, rfl, k3⟩ := k2
      refine ⟨f, by rw [hfs]; rfl, fun r hr => (by rw [hfs] at hr; cases hr), fun x hx => k3 x (by omega)⟩
    | some r0 =>
      rw [hff] at k2 hfs
      obtain ⟨f, rfl, k3, k4⟩ := k2
      refine ⟨f, by rw [hfs]; rfl, fun r hr => (by rw [hfs] at hr; cases hr; exact k3), fun x hx => k4 x (by omega)⟩
theorem r_weighs_4 (hS : WfS S) : ∀ (m k i : Nat) (s : Mm), m ≤ 4 → WQ S m k i s → WR (h := h) S m i s (fX12_weighs_d4 (M h s) (h + 308) (i32 (k : Int))) := by
  intro m k i s hm hQ
  obtain ⟨h1, h2, h3⟩ := hQ
  have hK := hS.1.2
  cases m with
  | zero =>
    have hk : k = S.1 := by omega
    subst hk
    refine ⟨s.1 320, ?_, ?_, fun x _ => rfl⟩
    · unfold fX12_weighs_d4
      rw [o_308, sb, r_letters h1, sb, if_pos rfl, sb, r_doAll hS h1 h3, sb, mI_id]
      by_cases c : lsA S i = true
      · rw [if_pos c, show zok (1 : Int32) = some 1 from by decide, sb]
        unfold fst5
        rw [if_pos c]; rfl
      · rw [if_neg c, show zok (0 : Int32) = some 0 from by decide, sb]
        unfold fst5
        rw [if_neg c]; rfl
    · intro r hr x hx
      unfold fst5 at hr
      split at hr
      · cases hr; exact h3 x hx
      · cases hr
  | succ m =>
    obtain ⟨y, k1, k2⟩ := loop_rel (F := fLX12_weighs_d4_15 (h + 308) (i32 (k : Int))) (gfs (fun t => fst5 S m (i * 5 + t))) (fun _ t x => ∃ f : Nat → Int32, x = (i32 ((t : Int) + 1), M h (mI s 320 f)) ∧ ∀ x, x < k → f x = s.1 320 x) (fun _ y => ∃ f : Nat → Int32, y = .inr (M h (mI s 320 f)) ∧ ∀ x, x < k → f x = s.1 320 x) (fun r y => ∃ f : Nat → Int32, y = .inl (M h (mI s 320 f)) ∧ (∀ x, x < S.1 → f x = i32 (dg S.1 r x : Int)) ∧ ∀ x, x < k → f x = s.1 320 x) 5 (by
      rintro a t x ht ⟨f, rfl, hf⟩
      obtain ⟨f', e1, e2, e3⟩ := r_weighs_3 hS m (k + 1) (i * 5 + t) (mI s 320 (upd f k (i32 ((t : Int) + 1)))) (by omega) ⟨h1, by omega, fun x hx => by
        rw [mI_at]
        by_cases cx : x = k
        · subst cx
          rw [upd_at, dg_last, show (i * 5 + t) % 5 = t by omega]; rfl
        · rw [upd_ne cx, hf x (by omega), h3 x (by omega), dg_pre (by omega), show (i * 5 + t) / 5 = i by omega]⟩
      rw [mI_mI] at e1
      have e3' : ∀ x, x < k → f' x = s.1 320 x := fun x hx => by
        rw [e3 x (by omega), mI_at, upd_ne (by omega), hf x hx]
      unfold fLX12_weighs_d4_15
      rw [if_neg (by rw [q5]; rw [lt32 (by omega) (by omega) (by omega) (by omega)]; omega), g_308_35, sb, s_320 (by omega) (by omega), sb, tn0, mI_mI, mI_at, o_308, sb, q1, a32, show ((k : Int) + 1) = ((k + 1 : Nat) : Int) from rfl, e1, sb]
      rw [show gfs (fun t => fst5 S m (i * 5 + t)) a t = ofs (fst5 S m (i * 5 + t)) from rfl]
      cases hfs : fst5 S m (i * 5 + t) with
      | none =>
        rw [if_neg (show ¬ (none : Option Nat).isSome = true from by decide), if_pos (show (0 : Int32) = 0 from rfl), xlet_eq, a32]
        exact ⟨_, rfl, _, rfl, f', rfl, e3'⟩
      | some r =>
        rw [if_pos (show (some r).isSome = true from rfl), if_neg (by show ¬ (1 : Int32) = 0; decide)]
        exact ⟨_, rfl, _, rfl, f', rfl, e2 r hfs, e3'⟩) (by
      rintro a x ⟨f, rfl, hf⟩
      unfold fLX12_weighs_d4_15
      rw [if_pos (by rw [q5]; rw [lt32 (by omega) (by omega) (by omega) (by omega)]; omega)]
      exact ⟨_, rfl, f, rfl, hf⟩) (a := ()) (x := (1, M h s)) ⟨s.1 320, by rw [mI_id]; rfl, fun x _ => rfl⟩
    rw [walk_fs] at k2
    have hfs : fst5 S (m + 1) i = (List.range 5).findSome? (fun v => fst5 S m (i * 5 + v)) := rfl
    unfold fX12_weighs_d4
    rw [o_308, sb, r_letters h1, sb, if_neg (by rw [eq32 (by omega) (by omega) (by omega) (by omega)]; omega), k1, sb]
    cases hff : (List.range 5).findSome? (fun v => fst5 S m (i * 5 + v)) with
    | none =>
      rw [hff] at k2 hfs
      obtain ⟨f, rfl, k3⟩ := k2
      refine ⟨f, by rw [hfs]; rfl, fun r hr => (by rw [hfs] at hr; cases hr), fun x hx => k3 x (by omega)⟩
    | some r0 =>
      rw [hff] at k2 hfs
      obtain ⟨f, rfl, k3, k4⟩ := k2
      refine ⟨f, by rw [hfs]; rfl, fun r hr => (by rw [hfs] at hr; cases hr; exact k3), fun x hx => k4 x (by omega)⟩
theorem r_weighs_5 (hS : WfS S) : ∀ (m k i : Nat) (s : Mm), m ≤ 5 → WQ S m k i s → WR (h := h) S m i s (fX12_weighs_d5 (M h s) (h + 308) (i32 (k : Int))) := by
  intro m k i s hm hQ
  obtain ⟨h1, h2, h3⟩ := hQ
  have hK := hS.1.2
  cases m with
  | zero =>
    have hk : k = S.1 := by omega
    subst hk
    refine ⟨s.1 320, ?_, ?_, fun x _ => rfl⟩
    · unfold fX12_weighs_d5
      rw [o_308, sb, r_letters h1, sb, if_pos rfl, sb, r_doAll hS h1 h3, sb, mI_id]
      by_cases c : lsA S i = true
      · rw [if_pos c, show zok (1 : Int32) = some 1 from by decide, sb]
        unfold fst5
        rw [if_pos c]; rfl
      · rw [if_neg c, show zok (0 : Int32) = some 0 from by decide, sb]
        unfold fst5
        rw [if_neg c]; rfl
    · intro r hr x hx
      unfold fst5 at hr
      split at hr
      · cases hr; exact h3 x hx
      · cases hr
  | succ m =>
    obtain ⟨y, k1, k2⟩ := loop_rel (F := fLX12_weighs_d5_15 (h + 308) (i32 (k : Int))) (gfs (fun t => fst5 S m (i * 5 + t))) (fun _ t x => ∃ f : Nat → Int32, x = (i32 ((t : Int) + 1), M h (mI s 320 f)) ∧ ∀ x, x < k → f x = s.1 320 x) (fun _ y => ∃ f : Nat → Int32, y = .inr (M h (mI s 320 f)) ∧ ∀ x, x < k → f x = s.1 320 x) (fun r y => ∃ f : Nat → Int32, y = .inl (M h (mI s 320 f)) ∧ (∀ x, x < S.1 → f x = i32 (dg S.1 r x : Int)) ∧ ∀ x, x < k → f x = s.1 320 x) 5 (by
      rintro a t x ht ⟨f, rfl, hf⟩
      obtain ⟨f', e1, e2, e3⟩ := r_weighs_4 hS m (k + 1) (i * 5 + t) (mI s 320 (upd f k (i32 ((t : Int) + 1)))) (by omega) ⟨h1, by omega, fun x hx => by
        rw [mI_at]
        by_cases cx : x = k
        · subst cx
          rw [upd_at, dg_last, show (i * 5 + t) % 5 = t by omega]; rfl
        · rw [upd_ne cx, hf x (by omega), h3 x (by omega), dg_pre (by omega), show (i * 5 + t) / 5 = i by omega]⟩
      rw [mI_mI] at e1
      have e3' : ∀ x, x < k → f' x = s.1 320 x := fun x hx => by
        rw [e3 x (by omega), mI_at, upd_ne (by omega), hf x hx]
      unfold fLX12_weighs_d5_15
      rw [if_neg (by rw [q5]; rw [lt32 (by omega) (by omega) (by omega) (by omega)]; omega), g_308_35, sb, s_320 (by omega) (by omega), sb, tn0, mI_mI, mI_at, o_308, sb, q1, a32, show ((k : Int) + 1) = ((k + 1 : Nat) : Int) from rfl, e1, sb]
      rw [show gfs (fun t => fst5 S m (i * 5 + t)) a t = ofs (fst5 S m (i * 5 + t)) from rfl]
      cases hfs : fst5 S m (i * 5 + t) with
      | none =>
        rw [if_neg (show ¬ (none : Option Nat).isSome = true from by decide), if_pos (show (0 : Int32) = 0 from rfl), xlet_eq, a32]
        exact ⟨_, rfl, _, rfl, f', rfl, e3'⟩
      | some r =>
        rw [if_pos (show (some r).isSome = true from rfl), if_neg (by show ¬ (1 : Int32) = 0; decide)]
        exact ⟨_, rfl, _, rfl, f', rfl, e2 r hfs, e3'⟩) (by
      rintro a x ⟨f, rfl, hf⟩
      unfold fLX12_weighs_d5_15
      rw [if_pos (by rw [q5]; rw [lt32 (by omega) (by omega) (by omega) (by omega)]; omega)]
      exact ⟨_, rfl, f, rfl, hf⟩) (a := ()) (x := (1, M h s)) ⟨s.1 320, by rw [mI_id]; rfl, fun x _ => rfl⟩
    rw [walk_fs] at k2
    have hfs : fst5 S (m + 1) i = (List.range 5).findSome? (fun v => fst5 S m (i * 5 + v)) := rfl
    unfold fX12_weighs_d5
    rw [o_308, sb, r_letters h1, sb, if_neg (by rw [eq32 (by omega) (by omega) (by omega) (by omega)]; omega), k1, sb]
    cases hff : (List.range 5).findSome? (fun v => fst5 S m (i * 5 + v)) with
    | none =>
      rw [hff] at k2 hfs
      obtain ⟨f, rfl, k3⟩ := k2
      refine ⟨f, by rw [hfs]; rfl, fun r hr => (by rw [hfs] at hr; cases hr), fun x hx => k3 x (by omega)⟩
    | some r0 =>
      rw [hff] at k2 hfs
      obtain ⟨f, rfl, k3, k4⟩ := k2
      refine ⟨f, by rw [hfs]; rfl, fun r hr => (by rw [hfs] at hr; cases hr; exact k3), fun x hx => k4 x (by omega)⟩
theorem r_weighs_6 (hS : WfS S) : ∀ (m k i : Nat) (s : Mm), m ≤ 6 → WQ S m k i s → WR (h := h) S m i s (fX12_weighs_d6 (M h s) (h + 308) (i32 (k : Int))) := by
  intro m k i s hm hQ
  obtain ⟨h1, h2, h3⟩ := hQ
  have hK := hS.1.2
  cases m with
  | zero =>
    have hk : k = S.1 := by omega
    subst hk
    refine ⟨s.1 320, ?_, ?_, fun x _ => rfl⟩
    · unfold fX12_weighs_d6
      rw [o_308, sb, r_letters h1, sb, if_pos rfl, sb, r_doAll hS h1 h3, sb, mI_id]
      by_cases c : lsA S i = true
      · rw [if_pos c, show zok (1 : Int32) = some 1 from by decide, sb]
        unfold fst5
        rw [if_pos c]; rfl
      · rw [if_neg c, show zok (0 : Int32) = some 0 from by decide, sb]
        unfold fst5
        rw [if_neg c]; rfl
    · intro r hr x hx
      unfold fst5 at hr
      split at hr
      · cases hr; exact h3 x hx
      · cases hr
  | succ m =>
    obtain ⟨y, k1, k2⟩ := loop_rel (F := fLX12_weighs_d6_15 (h + 308) (i32 (k : Int))) (gfs (fun t => fst5 S m (i * 5 + t))) (fun _ t x => ∃ f : Nat → Int32, x = (i32 ((t : Int) + 1), M h (mI s 320 f)) ∧ ∀ x, x < k → f x = s.1 320 x) (fun _ y => ∃ f : Nat → Int32, y = .inr (M h (mI s 320 f)) ∧ ∀ x, x < k → f x = s.1 320 x) (fun r y => ∃ f : Nat → Int32, y = .inl (M h (mI s 320 f)) ∧ (∀ x, x < S.1 → f x = i32 (dg S.1 r x : Int)) ∧ ∀ x, x < k → f x = s.1 320 x) 5 (by
      rintro a t x ht ⟨f, rfl, hf⟩
      obtain ⟨f', e1, e2, e3⟩ := r_weighs_5 hS m (k + 1) (i * 5 + t) (mI s 320 (upd f k (i32 ((t : Int) + 1)))) (by omega) ⟨h1, by omega, fun x hx => by
        rw [mI_at]
        by_cases cx : x = k
        · subst cx
          rw [upd_at, dg_last, show (i * 5 + t) % 5 = t by omega]; rfl
        · rw [upd_ne cx, hf x (by omega), h3 x (by omega), dg_pre (by omega), show (i * 5 + t) / 5 = i by omega]⟩
      rw [mI_mI] at e1
      have e3' : ∀ x, x < k → f' x = s.1 320 x := fun x hx => by
        rw [e3 x (by omega), mI_at, upd_ne (by omega), hf x hx]
      unfold fLX12_weighs_d6_15
      rw [if_neg (by rw [q5]; rw [lt32 (by omega) (by omega) (by omega) (by omega)]; omega), g_308_35, sb, s_320 (by omega) (by omega), sb, tn0, mI_mI, mI_at, o_308, sb, q1, a32, show ((k : Int) + 1) = ((k + 1 : Nat) : Int) from rfl, e1, sb]
      rw [show gfs (fun t => fst5 S m (i * 5 + t)) a t = ofs (fst5 S m (i * 5 + t)) from rfl]
      cases hfs : fst5 S m (i * 5 + t) with
      | none =>
        rw [if_neg (show ¬ (none : Option Nat).isSome = true from by decide), if_pos (show (0 : Int32) = 0 from rfl), xlet_eq, a32]
        exact ⟨_, rfl, _, rfl, f', rfl, e3'⟩
      | some r =>
        rw [if_pos (show (some r).isSome = true from rfl), if_neg (by show ¬ (1 : Int32) = 0; decide)]
        exact ⟨_, rfl, _, rfl, f', rfl, e2 r hfs, e3'⟩) (by
      rintro a x ⟨f, rfl, hf⟩
      unfold fLX12_weighs_d6_15
      rw [if_pos (by rw [q5]; rw [lt32 (by omega) (by omega) (by omega) (by omega)]; omega)]
      exact ⟨_, rfl, f, rfl, hf⟩) (a := ()) (x := (1, M h s)) ⟨s.1 320, by rw [mI_id]; rfl, fun x _ => rfl⟩
    rw [walk_fs] at k2
    have hfs : fst5 S (m + 1) i = (List.range 5).findSome? (fun v => fst5 S m (i * 5 + v)) := rfl
    unfold fX12_weighs_d6
    rw [o_308, sb, r_letters h1, sb, if_neg (by rw [eq32 (by omega) (by omega) (by omega) (by omega)]; omega), k1, sb]
    cases hff : (List.range 5).findSome? (fun v => fst5 S m (i * 5 + v)) with
    | none =>
      rw [hff] at k2 hfs
      obtain ⟨f, rfl, k3⟩ := k2
      refine ⟨f, by rw [hfs]; rfl, fun r hr => (by rw [hfs] at hr; cases hr), fun x hx => k3 x (by omega)⟩
    | some r0 =>
      rw [hff] at k2 hfs
      obtain ⟨f, rfl, k3, k4⟩ := k2
      refine ⟨f, by rw [hfs]; rfl, fun r hr => (by rw [hfs] at hr; cases hr; exact k3), fun x hx => k4 x (by omega)⟩
/-- both searches find the same row -/
theorem fst5_spec : ∀ (m i : Nat), (∀ r, fst5 S m i = some r → i * 5 ^ m ≤ r ∧ r < (i + 1) * 5 ^ m ∧ lsA S r = true ∧ ∀ q, i * 5 ^ m ≤ q → q < r → lsA S q = false) ∧ (fst5 S m i = none → ∀ q, i * 5 ^ m ≤ q → q < (i + 1) * 5 ^ m → lsA S q = false) := by
  intro m
  induction m with
  | zero =>
    intro i
    rw [Nat.pow_zero, Nat.mul_one, Nat.mul_one]
    unfold fst5
    by_cases c : lsA S i = true
    · rw [if_pos c]
      exact ⟨fun r hr => by cases hr; exact ⟨Nat.le_refl _, by omega, c, fun q h1 h2 => by omega⟩, fun hn => by cases hn⟩
    · rw [if_neg c]
      refine ⟨fun r hr => (by cases hr), fun _ q h1 h2 => ?_⟩
      have : q = i := by omega
      subst this
      simpa using c
  | succ m ih =>
    intro i
    have hblk : ∀ v, (i * 5 + v) * 5 ^ m = i * 5 ^ (m + 1) + v * 5 ^ m := fun v => by
      rw [Nat.add_mul, Nat.mul_assoc, Nat.pow_succ']
    have hnext : (i + 1) * 5 ^ (m + 1) = i * 5 ^ (m + 1) + 5 * 5 ^ m := by
      rw [Nat.add_mul, Nat.one_mul, ← Nat.pow_succ']
    have hv1 : ∀ v, (i * 5 + v + 1) * 5 ^ m = i * 5 ^ (m + 1) + v * 5 ^ m + 5 ^ m := fun v => by
      rw [Nat.add_mul, hblk, Nat.one_mul]
    have key : ∀ (n : Nat), n ≤ 5 → (∀ r, (List.range n).findSome? (fun v => fst5 S m (i * 5 + v)) = some r → i * 5 ^ (m + 1) ≤ r ∧ r < i * 5 ^ (m + 1) + n * 5 ^ m ∧ lsA S r = true ∧ ∀ q, i * 5 ^ (m + 1) ≤ q → q < r → lsA S q = false) ∧ ((List.range n).findSome? (fun v => fst5 S m (i * 5 + v)) = none → ∀ q, i * 5 ^ (m + 1) ≤ q → q < i * 5 ^ (m + 1) + n * 5 ^ m → lsA S q = false) := by
      intro n
      induction n with
      | zero => intro _; exact ⟨fun r hr => (by cases hr), fun _ q h1 h2 => by omega⟩
      | succ n ihn =>
        intro hn
        obtain ⟨a1, a2⟩ := ihn (by omega)
        obtain ⟨b1, b2⟩ := ih (i * 5 + n)
        rw [hblk, hv1] at b1 b2
        have hs : (n + 1) * 5 ^ m = n * 5 ^ m + 5 ^ m := by rw [Nat.add_mul, Nat.one_mul]
        rw [List.range_succ, List.findSome?_append, hs]
        cases hf : (List.range n).findSome? (fun v => fst5 S m (i * 5 + v)) with
        | some r0 =>
          rw [hf] at a1
          refine ⟨fun r hr => ?_, fun hn => by cases hn⟩
          cases hr
          obtain ⟨z1, z2, z3, z4⟩ := a1 r0 rfl
          exact ⟨z1, by omega, z3, z4⟩
        | none =>
          have a2 := a2 hf
          simp only [Option.none_or, List.findSome?_cons, List.findSome?_nil]
          cases hg : fst5 S m (i * 5 + n) with
          | some r0 =>
            obtain ⟨z1, z2, z3, z4⟩ := b1 r0 hg
            refine ⟨fun r hr => ?_, fun hn => by cases hn⟩
            cases hr
            refine ⟨by omega, by omega, z3, fun q h1 h2 => ?_⟩
            by_cases c : q < i * 5 ^ (m + 1) + n * 5 ^ m
            · exact a2 q h1 c
            · exact z4 q (by omega) h2
          | none =>
            have b2 := b2 hg
            refine ⟨fun r hr => (by cases hr), fun _ q h1 h2 => ?_⟩
            by_cases c : q < i * 5 ^ (m + 1) + n * 5 ^ m
            · exact a2 q h1 c
            · exact b2 q (by omega) (by omega)
    have := key 5 (Nat.le_refl _)
    rw [hnext]
    exact this
theorem fst5_ls : fst5 S S.1 0 = lsI S := by
  obtain ⟨h1, h2⟩ := fst5_spec (S := S) S.1 0
  rw [Nat.zero_mul, Nat.zero_add, Nat.one_mul] at h1 h2
  unfold lsI
  cases hf : fst5 S S.1 0 with
  | none =>
    have := h2 hf
    symm
    rw [List.find?_eq_none]
    intro q hq
    rw [this q (Nat.zero_le _) (List.mem_range.mp hq)]; decide
  | some r =>
    obtain ⟨z1, z2, z3, z4⟩ := h1 r hf
    exact (find_first z2 z3 (fun q hq => z4 q (Nat.zero_le _) hq)).symm
theorem r_leastW (hS : WfS S) (hR : RR (s.2 309) S) : ∃ f : Nat → Int32, fX12_weighs_d6 (M h s) (h + 308) 0 = some (if (lsI S).isSome = true then 1 else 0, M h (mI s 320 f)) ∧ (∀ r, lsI S = some r → ∀ x, x < S.1 → f x = i32 (dg S.1 r x : Int)) := by
  have hK := hS.1.2
  obtain ⟨f, z1, z2, -⟩ := r_weighs_6 (h := h) hS S.1 0 0 s (by omega) ⟨hR, by omega, fun x hx => absurd hx (by omega)⟩
  rw [fst5_ls] at z1 z2
  exact ⟨f, z1, z2⟩
end CC
