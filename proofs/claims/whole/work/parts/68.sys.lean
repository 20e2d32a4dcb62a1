/-! SYSTEMS: letters, rules, weights, ranks; what the class's rules (cells r on) hold of one; weights and the order, in the class -/
abbrev Sys : Type := Nat × List (List Nat × List Nat) × (Nat → Nat) × (Nat → Nat)
def rl (S : Sys) (r : Nat) : List Nat := (S.2.1.getD r ([], [])).1
def rr (S : Sys) (r : Nat) : List Nat := (S.2.1.getD r ([], [])).2
def nr (S : Sys) : Nat := S.2.1.length
def wg (S : Sys) (w : List Nat) : Nat := (w.map S.2.2.1).sum
def Wk (K : Nat) (w : List Nat) : Prop := w.length ≤ 16 ∧ ∀ x ∈ w, x < K
def WfS (S : Sys) : Prop := (1 ≤ S.1 ∧ S.1 ≤ 5) ∧ nr S ≤ 12 ∧ (∀ r, r < nr S → Wk S.1 (rl S r) ∧ Wk S.1 (rr S r) ∧ rl S r ≠ []) ∧ (∀ x, x < 5 → 1 ≤ S.2.2.1 x ∧ S.2.2.1 x ≤ 9) ∧ (∀ x, x < S.1 → S.2.2.2 x < S.1) ∧ (∀ x y, x < S.1 → y < S.1 → S.2.2.2 x = S.2.2.2 y → x = y)
theorem Wk.ww {K : Nat} {w : List Nat} (h : Wk K w) (hK : K ≤ 5) : Ww w := ⟨h.1, fun x hx => Nat.lt_of_lt_of_le (h.2 x hx) hK⟩
/-- the class's rules at the cells r, r + 1 .. -/
def RS (s : Mm) (r : Nat) (S : Sys) : Prop := s.1 r 0 = i32 (S.1 : Int) ∧ s.1 r 1 = i32 (nr S : Int) ∧ (∀ k, k < nr S → s.2 (r + 1) k = i64 (cw (rl S k) : Int)) ∧ (∀ k, k < nr S → s.2 (r + 2) k = i64 (cw (rr S k) : Int)) ∧ (∀ x, x < 5 → s.1 (r + 3) x = i32 (S.2.2.1 x : Int)) ∧ (∀ x, x < S.1 → s.1 (r + 4) x = i32 (S.2.2.2 x : Int))
def fdiff (a b : List Nat) : Option Nat := (List.range (min a.length b.length)).find? (fun k => a.getD k 0 != b.getD k 0)
def cmpS (S : Sys) (a b : List Nat) : Int := if wg S a = wg S b then (match fdiff a b with
    | some k => if S.2.2.2 (b.getD k 0) < S.2.2.2 (a.getD k 0) then 1 else -1
    | none => 0) else if wg S b < wg S a then 1 else -1
theorem sum_le {f : Nat → Nat} {c : Nat} : ∀ {w : List Nat}, (∀ x ∈ w, f x ≤ c) → (w.map f).sum ≤ w.length * c := by
  intro w
  induction w with
  | nil => intro _; simp
  | cons x w ih =>
    intro h
    have h1 := h x (by simp)
    have h2 := ih (fun y hy => h y (by simp [hy]))
    rw [List.map_cons, List.sum_cons, List.length_cons, Nat.add_mul]
    omega
theorem wg_le {S : Sys} (hS : WfS S) {w : List Nat} (hw : Ww w) : wg S w ≤ 144 := by
  have h1 := sum_le (f := S.2.2.1) (c := 9) (w := w) (fun x hx => (hS.2.2.2.1 x (hw.2 x hx)).2)
  have := hw.1
  unfold wg
  omega
section CC
variable {h : Nat} {s : Mm} {S : Sys} {w a b : List Nat}
/-- the LETTER at k, read without a call -/
theorem c_raw (hw : Ww w) {k : Nat} (hk : k < w.length) : ((((((i64 (cw w : Int)).toUInt64 >>> ((3 * i32 (k : Int)).toInt64.toUInt64 &&& Int64.toUInt64 63)).toInt64) &&& 7).toInt32) - 1) = i32 ((w.getD k 0 : Nat) : Int) := by
  have h16 := hw.1
  have e := c_let hw (k := k) (by omega)
  unfold fX10_letterOf at e
  rw [c_l hw, if_pos (by rw [lt32 (by omega) (by omega) (by omega) (by omega)]; omega), ltr_of hk] at e
  exact Option.some.inj e
theorem c_weighBy {σ : St} {x0 : Nat} {f : Nat → Nat} (hf : ∀ x : Nat, x < 5 → aI σ x0 0 (i32 (x : Int)) = some (i32 (f x : Int))) (hw : Ww w) : fX8_weighBy σ x0 (i64 (cw w : Int)) = some (i32 (((w.map f).sum : Nat) : Int)) := by
  have h16 := hw.1
  unfold fX8_weighBy
  rw [c_l hw, xlet_eq, loop_fold (fun a k => a + f (w.getD k 0)) (fun a k => (i32 (a : Int), i32 (k : Int))) (fun a => i32 (a : Int)) w.length ?_ ?_ (a := 0) (show ((0 : Int32), (0 : Int32)) = _ from rfl), sb, fold_sum, Nat.zero_add]
  · intro a k hk
    have hl := getD_lt hw.2 hk
    unfold fLX8_weighBy_12
    rw [if_neg (by rw [le32 (by omega) (by omega) (by omega) (by omega)]; omega), c_raw hw hk, xlet_eq, if_neg (by rw [q0]; rw [lt32 (by omega) (by omega) (by omega) (by omega)]; omega), if_neg (by rw [q5]; rw [le32 (by omega) (by omega) (by omega) (by omega)]; omega), hf _ hl, sb, xlet_eq, xlet_eq, q1, a32, a32]
    rfl
  · intro a
    unfold fLX8_weighBy_12
    rw [if_pos (by rw [le32 (by omega) (by omega) (by omega) (by omega)]; omega)]
theorem c_weigh (hR : RS s 3 S) (hw : Ww w) : fX8_weighBy (M h s) (h + 6) (i64 (cw w : Int)) = some (i32 (wg S w : Int)) :=
  c_weighBy (f := S.2.2.1) (fun x hx => by rw [a_6 (by omega) (by omega), tn0, hR.2.2.2.2.1 x hx]) hw
theorem c_cmpi {a b : Int} (h1 : -1000000 ≤ a ∧ a ≤ 1000000) (h2 : -1000000 ≤ b ∧ b ≤ 1000000) : fJ6_compare_7cf53 (i32 a) (i32 b) = some (i32 (if a = b then 0 else if b < a then 1 else -1)) := by
  unfold fJ6_compare_7cf53
  by_cases c1 : a = b
  · subst c1
    rw [if_pos (by rw [le32 (by omega) (by omega) (by omega) (by omega)]; omega), if_pos rfl, if_pos rfl]; rfl
  · by_cases c2 : b < a
    · rw [if_pos (by rw [le32 (by omega) (by omega) (by omega) (by omega)]; omega), if_neg (by rw [eq32 (by omega) (by omega) (by omega) (by omega)]; omega), if_neg c1, if_pos c2]; rfl
    · rw [if_neg (by rw [le32 (by omega) (by omega) (by omega) (by omega)]; omega), if_neg c1, if_neg c2]; rfl
theorem c_order (hS : WfS S) (hR : RS s 3 S) (ha : Wk S.1 a) (hb : Wk S.1 b) : fX8_order (M h s) (h + 3) (i64 (cw a : Int)) (i64 (cw b : Int)) = some (i32 (cmpS S a b)) := by
  have hA := ha.ww hS.1.2
  have hB := hb.ww hS.1.2
  have h1 := wg_le hS hA
  have h2 := wg_le hS hB
  have h3 := hA.1
  have h4 := hB.1
  unfold fX8_order cmpS
  rw [g_3_4, sb, c_weigh hR hA, sb, sb, c_weigh hR hB, sb]
  by_cases c1 : wg S a = wg S b
  · rw [if_pos (show i32 (wg S a : Int) = i32 (wg S b : Int) by rw [c1]), if_pos c1, c_len hA, sb, c_len hB, sb, imin_of (by omega) (by omega), xlet_eq]
    rw [loop_find (fun k => a.getD k 0 != b.getD k 0) (fun k => i32 (k : Int)) (.inr ()) (fun k => .inl (i32 ((a.getD k 0 : Nat) : Int), i32 ((b.getD k 0 : Nat) : Int))) (min a.length b.length) ?_ ?_ (show (0 : Int32) = _ from rfl), sb]
    · show _ = some (i32 (match fdiff a b with | some k => _ | none => _))
      unfold fdiff
      cases hf : (List.range (min a.length b.length)).find? (fun k => a.getD k 0 != b.getD k 0) with
      | none => rfl
      | some k =>
        obtain ⟨hk, -, -⟩ := find_some hf
        have e1 := ha.2 (a.getD k 0) (by rw [List.getD_eq_getElem?_getD, List.getElem?_eq_getElem (by omega)]; exact List.getElem_mem _)
        have e2 := hb.2 (b.getD k 0) (by rw [List.getD_eq_getElem?_getD, List.getElem?_eq_getElem (by omega)]; exact List.getElem_mem _)
        have e3 := hS.2.2.2.2.1 _ e1
        have e4 := hS.2.2.2.2.1 _ e2
        have e5 := hS.1.2
        simp only []
        rw [g_3_5, sb, a_7 (by omega) (by omega), sb, sb, a_7 (by omega) (by omega), sb, tn0, tn0, hR.2.2.2.2.2 _ e1, hR.2.2.2.2.2 _ e2]
        by_cases c2 : S.2.2.2 (b.getD k 0) < S.2.2.2 (a.getD k 0)
        · rw [if_neg (by rw [le32 (by omega) (by omega) (by omega) (by omega)]; omega), if_pos c2]; rfl
        · rw [if_pos (by rw [le32 (by omega) (by omega) (by omega) (by omega)]; omega), if_neg c2]; rfl
    · intro k hk
      unfold fLX8_order_56
      rw [if_neg (by rw [le32 (by omega) (by omega) (by omega) (by omega)]; omega), c_let hA (by omega), sb, c_let hB (by omega), sb, ltr_of (by omega), ltr_of (by omega)]
      have e1 := getD_lt hA.2 (show k < a.length by omega)
      have e2 := getD_lt hB.2 (show k < b.length by omega)
      by_cases c2 : a.getD k 0 = b.getD k 0
      · rw [if_pos (by rw [c2]), if_neg (by rw [c2]; simp), xlet_eq, q1, a32]; rfl
      · rw [if_neg (by rw [eq32 (by omega) (by omega) (by omega) (by omega)]; omega), if_pos (by simp only [bne_iff_ne, ne_eq]; exact c2)]
    · unfold fLX8_order_56
      rw [if_pos (by rw [le32 (by omega) (by omega) (by omega) (by omega)]; omega)]
  · rw [if_neg (show ¬ i32 (wg S a : Int) = i32 (wg S b : Int) by rw [eq32 (by omega) (by omega) (by omega) (by omega)]; omega), if_neg c1]
    by_cases c2 : wg S b < wg S a
    · rw [if_neg (show ¬ i32 (wg S a : Int) ≤ i32 (wg S b : Int) by rw [le32 (by omega) (by omega) (by omega) (by omega)]; omega), if_pos c2]; rfl
    · rw [if_pos (show i32 (wg S a : Int) ≤ i32 (wg S b : Int) by rw [le32 (by omega) (by omega) (by omega) (by omega)]; omega), if_neg c2]; rfl
end CC
