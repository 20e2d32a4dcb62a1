/-! OVERLAPS, and the class's list of them -/
def lay (S : Sys) (i j t : Nat) : Option (List Nat) := if t + (rl S j).length ≤ 16 ∧ ((rl S i).drop t).take (min ((rl S i).length - t) (rl S j).length) = (rl S j).take (min ((rl S i).length - t) (rl S j).length) then
    (if fitR S (rl S i ++ (rl S j).drop (min ((rl S i).length - t) (rl S j).length)) 0 i ∧ fitR S (rl S i ++ (rl S j).drop (min ((rl S i).length - t) (rl S j).length)) t j then some (rl S i ++ (rl S j).drop (min ((rl S i).length - t) (rl S j).length)) else none) else none
abbrev Ov : Type := Nat × Nat × Nat × List Nat
def ovIn (S : Sys) (i j : Nat) (l : List Nat) : List Ov := l.filterMap (fun t => (lay S i j t).map (fun w => (i, j, t, w)))
def ov0 (i j : Nat) : Nat := if i < j then 0 else 1
def ovs (S : Sys) : List Ov := (List.range (nr S)).flatMap (fun i => (List.range (nr S)).flatMap (fun j => ovIn S i j (rng (ov0 i j) (rl S i).length)))
def okO (S : Sys) (o : Ov) : Prop := o.1 < nr S ∧ o.2.1 < nr S ∧ o.2.2.1 < (rl S o.1).length ∧ lay S o.1 o.2.1 o.2.2.1 = some o.2.2.2
theorem lay_ok {S : Sys} (hS : WfS S) {i j t : Nat} (hi : i < nr S) (hj : j < nr S) (ht : t < (rl S i).length) {w : List Nat} (h : lay S i j t = some w) : Wk S.1 w ∧ okS S w (0, i) ∧ okS S w (t, j) := by
  have h1 := hS.2.2.1 i hi
  have h2 := hS.2.2.1 j hj
  unfold lay at h
  split at h
  · rename_i hc
    split at h
    · rename_i hf
      cases h
      have hl : (rl S i ++ (rl S j).drop (min ((rl S i).length - t) (rl S j).length)).length ≤ 16 := by
        rw [List.length_append, List.length_drop]
        have := h1.1.1
        omega
      have hpos : 0 < (rl S i).length := List.length_pos_iff.mpr h1.2.2
      refine ⟨⟨hl, fun x hx => ?_⟩, ⟨?_, hi, hf.1⟩, ⟨?_, hj, hf.2⟩⟩
      · rcases List.mem_append.mp hx with hx | hx
        · exact h1.1.2 x hx
        · exact h2.1.2 x (List.mem_of_mem_drop hx)
      · show 0 < (rl S i ++ _).length
        rw [List.length_append]; omega
      · show t < (rl S i ++ _).length
        rw [List.length_append]; omega
    · cases h
  · cases h
theorem mem_rng {k n x : Nat} : x ∈ rng k n ↔ k ≤ x ∧ x < n := by
  unfold rng
  rw [List.mem_iff_getElem]
  constructor
  · rintro ⟨m, hm, e⟩
    rw [List.length_drop, List.length_range] at hm
    rw [List.getElem_drop, List.getElem_range] at e
    omega
  · rintro ⟨h1, h2⟩
    refine ⟨x - k, by rw [List.length_drop, List.length_range]; omega, ?_⟩
    rw [List.getElem_drop, List.getElem_range]; omega
theorem mem_ovs {S : Sys} {o : Ov} (h : o ∈ ovs S) : okO S o := by
  unfold ovs at h
  obtain ⟨i, hi, h⟩ := List.mem_flatMap.mp h
  obtain ⟨j, hj, h⟩ := List.mem_flatMap.mp h
  unfold ovIn at h
  obtain ⟨t, ht, h⟩ := List.mem_filterMap.mp h
  cases hl : lay S i j t with
  | none => rw [hl] at h; cases h
  | some w =>
    rw [hl] at h
    cases h
    exact ⟨List.mem_range.mp hi, List.mem_range.mp hj, (mem_rng.mp ht).2, hl⟩
/-- the two ends of an overlap -/
def end1 (S : Sys) (o : Ov) : List Nat := (runS S 0 (aft S o.2.2.2 (0, o.1))).2.2.1
def end2 (S : Sys) (o : Ov) : List Nat := (runS S 0 (aft S o.2.2.2 (o.2.2.1, o.2.1))).2.2.1
def ovd (O : List Ov) (k : Nat) : Ov := O.getD k (0, 0, 0, [])
def codV (o : Ov) : Nat := (o.1 * 16 + o.2.1) * 16 + o.2.2.1
/-- the class's cells 256 to 259 -/
def OC (s : Mm) (S : Sys) (O : List Ov) : Prop := s.1 256 5 = i32 (O.length : Int) ∧ O.length ≤ 2304 ∧ (∀ o ∈ O, okO S o) ∧ (∀ k, k < O.length → s.2 257 k = i64 (cw (ovd O k).2.2.2 : Int)) ∧ (∀ k, k < O.length → s.1 258 k = i32 (codV (ovd O k) : Int)) ∧ (∀ k, k < O.length → s.1 259 k = 0 ∨ s.1 259 k = (if end1 S (ovd O k) = end2 S (ovd O k) then 1 else 2))
section CC
variable {h : Nat} {s : Mm} {S : Sys}
theorem c_app {a b : List Nat} (ha : Ww a) (hb : Ww b) : ∀ (n k : Nat), k + n = b.length → a.length + n ≤ 16 → ∀ (f : Int64 × Int32 → Option ((Int64 × Int32) ⊕ Int64)), (∀ v : Int64, ∀ x : Int32, f (v, x) = (fX10_length (i64 (cw b : Int))).bind fun w87 => if w87 ≤ x then some (Sum.inr v) else (fX10_letterOf (i64 (cw b : Int)) x).bind fun w99 => (fX10_longer v w99).bind fun w102 => xlet (x + 1) fun v107 => some (Sum.inl (w102, v107))) → iterP f (i64 (cw a : Int), i32 (k : Int)) = some (i64 (cw (a ++ b.drop k) : Int)) := by
  intro n
  induction n generalizing a with
  | zero =>
    intro k hk _ f hf
    have h16 := hb.1
    rw [iterP_eq, hf, c_len hb, sb, if_pos (by rw [le32 (by omega) (by omega) (by omega) (by omega)]; omega), List.drop_of_length_le (by omega), List.append_nil]; rfl
  | succ n ih =>
    intro k hk hl f hf
    have h16 := hb.1
    have hx := getD_lt hb.2 (show k < b.length by omega)
    have ha' : Ww (a ++ [b.getD k 0]) := ⟨by rw [List.length_append]; show a.length + 1 ≤ 16; omega, fun x hx' => by
      rcases List.mem_append.mp hx' with hx' | hx'
      · exact ha.2 x hx'
      · rw [List.mem_singleton.mp hx']; exact hx⟩
    have he : b.drop k = b.getD k 0 :: b.drop (k + 1) := by
      rw [List.drop_eq_getElem_cons (by omega), List.getD_eq_getElem?_getD, List.getElem?_eq_getElem (by omega)]; rfl
    rw [iter_inl (x' := (i64 (cw (a ++ [b.getD k 0]) : Int), i32 ((k + 1 : Nat) : Int))) (by
      rw [hf, c_len hb, sb, if_neg (by rw [le32 (by omega) (by omega) (by omega) (by omega)]; omega), c_let hb (by omega), sb, ltr_of (by omega), c_longer ha hx (by omega), sb, xlet_eq, q1, a32]; rfl)]
    rw [ih ha' (k + 1) (by omega) (by rw [List.length_append]; show a.length + 1 + n ≤ 16; omega) f hf, he, List.append_assoc]; rfl
theorem c_laid (hS : WfS S) (hR : RS s 3 S) {i j t : Nat} (hi : i < nr S) (hj : j < nr S) (ht : t < (rl S i).length) : fX5_laid (M h s) (h + 256) (i32 (i : Int)) (i32 (j : Int)) (i32 (t : Int)) = some (i64 (match lay S i j t with
    | some w => (cw w : Int)
    | none => -1)) := by
  have ha := wl hS hi
  have hb := wl hS hj
  have h1 := ha.1
  have h2 := hb.1
  have hlay := lay.eq_1 S i j t
  generalize hbo : min ((rl S i).length - t) (rl S j).length = bo at hlay
  unfold fX5_laid
  simp only [g_256_0, sb, g_3_2, g_3_3, rdl hS hR hi, rdl hS hR hj, rdr hS hR hi, rdr hS hR hj, c_len ha, c_len hb, xlet_eq, s32]
  rw [show ((rl S i).length : Int) - (t : Int) = (((rl S i).length - t : Nat) : Int) by omega, imin_of (by omega) (by omega), hbo, a32, q16]
  by_cases c0 : t + (rl S j).length ≤ 16
  · rw [if_neg (by rw [lt32 (by omega) (by omega) (by omega) (by omega)]; omega), c_part ha (by omega), sb, show (0 : Int32) = i32 ((0 : Nat) : Int) from rfl, c_part hb (by omega), sb, List.drop_zero]
    by_cases c1 : ((rl S i).drop t).take bo = (rl S j).take bo
    · rw [if_pos ⟨c0, c1⟩] at hlay
      rw [if_pos (show lg_cmp _ _ = i32 ((0 : Nat) : Int) from (cmp0 _ _).mpr (by rw [c1]))]
      have hw : Ww (rl S i ++ (rl S j).drop bo) := ⟨by rw [List.length_append, List.length_drop]; omega, fun x hx => by
        rcases List.mem_append.mp hx with hx | hx
        · exact ha.2 x hx
        · exact hb.2 x (List.mem_of_mem_drop hx)⟩
      have hap := c_app ha hb ((rl S j).length - bo) bo (by omega) (by omega) (fLX5_laid_83 (M h s) (h + 256) (i32 (i : Int)) (i32 (j : Int)) (i32 (t : Int)) (i64 (cw (rl S i) : Int)) (i64 (cw (rl S j) : Int))) (fun v x => rfl)
      rw [hap, sb, c_fits hw ha (wr hS hi) (by decide), sb]
      by_cases c2 : fitR S (rl S i ++ (rl S j).drop bo) 0 i
      · rw [if_pos c2, if_neg (by decide), c_fits hw hb (wr hS hj) (by omega), sb]
        by_cases c3 : fitR S (rl S i ++ (rl S j).drop bo) t j
        · rw [if_pos ⟨c2, c3⟩] at hlay
          rw [if_pos c3, if_neg (by decide), if_neg (by decide), hlay]
        · rw [if_neg (fun e => c3 e.2)] at hlay
          rw [if_neg c3, if_pos (by decide), if_pos (by decide), hlay]; rfl
      · rw [if_neg (fun e => c2 e.1)] at hlay
        rw [if_neg c2, if_pos (by decide), if_pos (by decide), hlay]; rfl
    · rw [if_neg (fun e => c1 e.2)] at hlay
      rw [if_neg (show ¬ lg_cmp _ _ = i32 ((0 : Nat) : Int) from fun e => c1 (by
        have := (cmp0 _ _).mp e
        rw [cwe ((ha.drop t).take bo) (hb.take bo)] at this
        exact this)), hlay]; rfl
  · rw [if_neg (fun e => c0 e.1)] at hlay
    rw [if_pos (by rw [lt32 (by omega) (by omega) (by omega) (by omega)]; omega), hlay]; rfl
end CC
