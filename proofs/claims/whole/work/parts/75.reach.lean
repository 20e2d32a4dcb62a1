/-! REACH: rows of words with the steps by which they came; the class's table of slots -/
abbrev RLs : Type := List (List Nat × Nat)
def ins (L : RLs) (x : List Nat × Nat) : RLs := if L.length < 200 ∧ ∀ y ∈ L, y.1 ≠ x.1 then L ++ [x] else L
def adds (L : RLs) (ws : List (List Nat)) (c : Nat) : RLs := ws.foldl (fun L v => ins L (v, c)) L
def lnk (L : RLs) (k : Nat) : List Nat × Nat := L.getD k ([], 0)
abbrev fitB (S : Sys) (w : List Nat) (p r : Nat) : Prop := fitsAt w p (rr S r) (rl S r)
def bksAt (S : Sys) (w : List Nat) (p : Nat) : List (Nat × Nat) := ((List.range (nr S)).filter (fun r => decide (fitB S w p r))).map (fun r => (p, r))
def bks (S : Sys) (w : List Nat) : List (Nat × Nat) := (List.range (w.length + 1)).flatMap (bksAt S w)
def bkw (S : Sys) (w : List Nat) (x : Nat × Nat) : List Nat := repl w x.1 (rr S x.2) (rl S x.2)
def nxt (b : Bool) (S : Sys) (w : List Nat) : List (List Nat) := (stps S w).map (aft S w) ++ (if b then (bks S w).map (bkw S w) else [])
def spF (b : Bool) (S : Sys) : Nat → Nat → RLs → RLs
  | 0, _, L => L
  | n + 1, k, L => if k < L.length then spF b S n (k + 1) (adds L (nxt b S (lnk L k).1) ((lnk L k).2 + 1)) else L
def rch (b : Bool) (S : Sys) (w : List Nat) : RLs := spF b S 200 0 [(w, 0)]
theorem ins_pre (L : RLs) (x : List Nat × Nat) : L <+: ins L x := by
  unfold ins
  split
  · exact List.prefix_append L [x]
  · exact List.prefix_refl L
theorem adds_pre (ws : List (List Nat)) (c : Nat) : ∀ L : RLs, L <+: adds L ws c := by
  induction ws with
  | nil => intro L; exact List.prefix_refl L
  | cons v ws ih => intro L; exact List.IsPrefix.trans (ins_pre L (v, c)) (ih _)
theorem pre_lnk {L L' : RLs} (hp : L <+: L') {k : Nat} (hk : k < L.length) : lnk L' k = lnk L k := by
  obtain ⟨m, rfl⟩ := hp
  unfold lnk
  exact getD_app1 hk
theorem pre_take {L L' : RLs} (hp : L <+: L') {k : Nat} (hk : k ≤ L.length) : L'.take k = L.take k := by
  obtain ⟨m, rfl⟩ := hp
  rw [List.take_append_of_le_length hk]
def hsh (w : List Nat) : Nat := (((((i64 (cw w : Int) ^^^ (((i64 (cw w : Int)).toUInt64 >>> ((9 : Int32).toInt64.toUInt64 &&& Int64.toUInt64 63)).toInt64)) ^^^ (((i64 (cw w : Int)).toUInt64 >>> ((20 : Int32).toInt64.toUInt64 &&& Int64.toUInt64 63)).toInt64)) ^^^ (((i64 (cw w : Int)).toUInt64 >>> ((37 : Int32).toInt64.toUInt64 &&& Int64.toUInt64 63)).toInt64)).toInt32)).toBitVec.toNat % 512
theorem hsh_def (w : List Nat) : hsh w = (((((i64 (cw w : Int) ^^^ (((i64 (cw w : Int)).toUInt64 >>> ((9 : Int32).toInt64.toUInt64 &&& Int64.toUInt64 63)).toInt64)) ^^^ (((i64 (cw w : Int)).toUInt64 >>> ((20 : Int32).toInt64.toUInt64 &&& Int64.toUInt64 63)).toInt64)) ^^^ (((i64 (cw w : Int)).toUInt64 >>> ((37 : Int32).toInt64.toUInt64 &&& Int64.toUInt64 63)).toInt64)).toInt32)).toBitVec.toNat % 512 := by
  unfold hsh; rfl
theorem hsh_lt (w : List Nat) : hsh w < 512 := by
  rw [hsh_def]; exact Nat.mod_lt _ (by decide)
theorem and511 (y : Int32) : y &&& 511 = i32 ((y.toBitVec.toNat % 512 : Nat) : Int) := by
  apply Int32.toBitVec_inj.mp
  rw [Int32.toBitVec_and, bv32]
  apply BitVec.eq_of_toNat_eq
  rw [BitVec.toNat_and, show (Int32.toBitVec 511).toNat = 2 ^ 9 - 1 from by decide, Nat.and_two_pow_sub_one_eq_mod, BitVec.toNat_ofNat]
  omega
theorem and511n (n : Nat) : i32 (n : Int) &&& 511 = i32 ((n % 512 : Nat) : Int) := by
  rw [show (511 : Int32) = i32 ((511 : Nat) : Int) from by decide, and32, show (511 : Nat) = 2 ^ 9 - 1 from rfl, Nat.and_two_pow_sub_one_eq_mod]
/-- the slots: 0 is empty, else 1 more than a word's number -/
def HT (L : RLs) (sl : Nat → Nat) : Prop := (∀ q, q < 512 → sl q ≤ L.length) ∧ (∀ q q', q < 512 → q' < 512 → sl q = sl q' → sl q ≠ 0 → q = q') ∧ (∀ j, j < L.length → ∃ d, d < 512 ∧ sl ((hsh (lnk L j).1 + d) % 512) = j + 1 ∧ ∀ d', d' < d → sl ((hsh (lnk L j).1 + d') % 512) ≠ 0)
theorem pigeon : ∀ (m n : Nat) (f : Nat → Nat), (∀ q, q < n → f q < m) → (∀ q q', q < n → q' < n → f q = f q' → q = q') → n ≤ m := by
  intro m
  induction m with
  | zero =>
    intro n f h1 _
    rcases Nat.eq_zero_or_pos n with h | h
    · omega
    · exact absurd (h1 0 h) (by omega)
  | succ m ih =>
    intro n f h1 h2
    cases n with
    | zero => omega
    | succ n =>
      have := ih n (fun q => if f q = m then f n else f q) (fun q hq => by
        by_cases c : f q = m
        · simp only [c, if_true]
          have a1 := h1 n (by omega)
          have : f n ≠ m := fun e => by
            have := h2 q n (by omega) (by omega) (by omega)
            omega
          omega
        · simp only [c, if_false]
          have := h1 q (by omega)
          omega) (fun q q' hq hq' he => by
        by_cases c : f q = m
        · by_cases c' : f q' = m
          · exact h2 q q' (by omega) (by omega) (by omega)
          · simp only [c, c', if_true, if_false] at he
            have := h2 n q' (by omega) (by omega) he
            omega
        · by_cases c' : f q' = m
          · simp only [c, c', if_true, if_false] at he
            have := h2 q n (by omega) (by omega) he
            omega
          · simp only [c, c', if_false] at he
            exact h2 q q' (by omega) (by omega) he)
      omega
theorem HT.empty {L : RLs} {sl : Nat → Nat} (h : HT L sl) (hl : L.length ≤ 200) (b : Nat) : ∃ d, d < 512 ∧ sl ((b + d) % 512) = 0 := by
  refine Classical.byContradiction (fun hn => ?_)
  have hne : ∀ q, q < 512 → sl q ≠ 0 := by
    intro q hq he
    refine hn ⟨(q + 512 - b % 512) % 512, by omega, ?_⟩
    rw [show (b + (q + 512 - b % 512) % 512) % 512 = q by omega]
    exact he
  have := pigeon 200 512 (fun q => sl q - 1) (fun q hq => by have := h.1 q hq; have := hne q hq; omega) (fun q q' hq hq' he => by
    have a1 := hne q hq
    have a2 := hne q' hq'
    exact h.2.1 q q' hq hq' (by omega) a1)
  omega
/-- a reach's cells: object, words, came, slots -/
def Hr (r : Nat) : Prop := r + 3 < 300 ∧ 10 < r ∧ sh r = .inr (6, [5, 0, r + 1 + 2, r + 2 + 2, 0, 0, 0, 0, r + 3 + 2, 0]) ∧ sh (r + 1) = .inl (1, 200) ∧ sh (r + 2) = .inl (0, 200) ∧ sh (r + 3) = .inl (0, 512)
theorem hr1 : Hr 260 := ⟨by decide, by decide, by decide +kernel, by decide +kernel, by decide +kernel, by decide +kernel⟩
theorem hr2 : Hr 264 := ⟨by decide, by decide, by decide +kernel, by decide +kernel, by decide +kernel, by decide +kernel⟩
theorem hr3 : Hr 268 := ⟨by decide, by decide, by decide +kernel, by decide +kernel, by decide +kernel, by decide +kernel⟩
section HR
variable {h r : Nat} {s : Mm} {e : Int}
theorem re_o (H : Hr r) : isO (M h s) (h + r) 6 = some () := isO_M H.2.2.1 (by have := H.1; omega)
theorem re_r (H : Hr r) : gR (M h s) (h + r) 6 0 = some (h + 3) := gR_M H.2.2.1 rfl (by have := H.1; omega) (by decide)
theorem re_w (H : Hr r) : gR (M h s) (h + r) 6 2 = some (h + (r + 1)) := gR_M H.2.2.1 rfl (by have := H.1; omega) (by have := H.1; omega)
theorem re_c (H : Hr r) : gR (M h s) (h + r) 6 3 = some (h + (r + 2)) := gR_M H.2.2.1 rfl (by have := H.1; omega) (by have := H.1; omega)
theorem re_s (H : Hr r) : gR (M h s) (h + r) 6 8 = some (h + (r + 3)) := gR_M H.2.2.1 rfl (by have := H.1; omega) (by have := H.1; omega)
theorem re_1 (H : Hr r) : gI (M h s) (h + r) 6 1 = some (s.1 r 1) := gI_M H.2.2.1 rfl (by have := H.1; omega)
theorem re_4 (H : Hr r) : gI (M h s) (h + r) 6 4 = some (s.1 r 4) := gI_M H.2.2.1 rfl (by have := H.1; omega)
theorem re_5 (H : Hr r) : gI (M h s) (h + r) 6 5 = some (s.1 r 5) := gI_M H.2.2.1 rfl (by have := H.1; omega)
theorem re_6 (H : Hr r) : gI (M h s) (h + r) 6 6 = some (s.1 r 6) := gI_M H.2.2.1 rfl (by have := H.1; omega)
theorem re_7 (H : Hr r) : gI (M h s) (h + r) 6 7 = some (s.1 r 7) := gI_M H.2.2.1 rfl (by have := H.1; omega)
theorem re_9 (H : Hr r) : gI (M h s) (h + r) 6 9 = some (s.1 r 9) := gI_M H.2.2.1 rfl (by have := H.1; omega)
theorem rw_4 (H : Hr r) {v : Int32} : wrF (M h s) (h + r) 6 4 (.int v) = some (M h (mI s r (upd (s.1 r) 4 v))) := wI_M H.2.2.1 rfl (by have := H.1; omega)
theorem rw_5 (H : Hr r) {v : Int32} : wrF (M h s) (h + r) 6 5 (.int v) = some (M h (mI s r (upd (s.1 r) 5 v))) := wI_M H.2.2.1 rfl (by have := H.1; omega)
theorem rw_6 (H : Hr r) {v : Int32} : wrF (M h s) (h + r) 6 6 (.int v) = some (M h (mI s r (upd (s.1 r) 6 v))) := wI_M H.2.2.1 rfl (by have := H.1; omega)
theorem rw_7 (H : Hr r) {v : Int32} : wrF (M h s) (h + r) 6 7 (.int v) = some (M h (mI s r (upd (s.1 r) 7 v))) := wI_M H.2.2.1 rfl (by have := H.1; omega)
theorem rw_9 (H : Hr r) {v : Int32} : wrF (M h s) (h + r) 6 9 (.int v) = some (M h (mI s r (upd (s.1 r) 9 v))) := wI_M H.2.2.1 rfl (by have := H.1; omega)
theorem ra_w (H : Hr r) (h1 : 0 ≤ e) (h2 : e < 200) : aL (M h s) (h + (r + 1)) (i32 e) = some (s.2 (r + 1) e.toNat) := aL_M H.2.2.2.1 (by have := H.1; omega) h1 h2 (by decide)
theorem ra_c (H : Hr r) (h1 : 0 ≤ e) (h2 : e < 200) : aI (M h s) (h + (r + 2)) 0 (i32 e) = some (s.1 (r + 2) e.toNat) := aI_M H.2.2.2.2.1 (by have := H.1; omega) (by decide) h1 h2 (by decide)
theorem ra_s (H : Hr r) (h1 : 0 ≤ e) (h2 : e < 512) : aI (M h s) (h + (r + 3)) 0 (i32 e) = some (s.1 (r + 3) e.toNat) := aI_M H.2.2.2.2.2 (by have := H.1; omega) (by decide) h1 h2 (by decide)
theorem rs_w (H : Hr r) {v : Int64} (h1 : 0 ≤ e) (h2 : e < 200) : sL (M h s) (h + (r + 1)) (i32 e) v = some (M h (mL s (r + 1) (vp_updL (s.2 (r + 1)) e.toNat v))) := sL_M H.2.2.2.1 (by have := H.1; omega) h1 h2 (by decide)
theorem rs_c (H : Hr r) {v : Int32} (h1 : 0 ≤ e) (h2 : e < 200) : sI (M h s) (h + (r + 2)) (i32 e) v = some (M h (mI s (r + 2) (upd (s.1 (r + 2)) e.toNat v))) := sI_M H.2.2.2.2.1 (by have := H.1; omega) h1 h2 (by decide)
theorem rs_s (H : Hr r) {v : Int32} (h1 : 0 ≤ e) (h2 : e < 512) : sI (M h s) (h + (r + 3)) (i32 e) v = some (M h (mI s (r + 3) (upd (s.1 (r + 3)) e.toNat v))) := sI_M H.2.2.2.2.2 (by have := H.1; omega) h1 h2 (by decide)
/-- what a reach's cells hold of a row of words -/
def RC (s : Mm) (r K : Nat) (L : RLs) (sl : Nat → Nat) : Prop := s.1 r 4 = i32 (L.length : Int) ∧ (∀ j, j < L.length → s.2 (r + 1) j = i64 (cw (lnk L j).1 : Int)) ∧ (∀ j, j < L.length → s.1 (r + 2) j = i32 ((lnk L j).2 : Int)) ∧ L.length ≤ 200 ∧ (∀ y ∈ L, Wk K y.1) ∧ (∀ i j, i < L.length → j < L.length → (lnk L i).1 = (lnk L j).1 → i = j) ∧ (∀ q, q < 512 → s.1 (r + 3) q = i32 (sl q : Int)) ∧ HT L sl ∧ (∀ j, j < L.length → (lnk L j).2 ≤ j)
theorem lnk_mem {L : RLs} {j : Nat} (hj : j < L.length) : lnk L j ∈ L := getD_mem hj
theorem c_slot0 (H : Hr r) {K : Nat} (hK : K ≤ 5) {L : RLs} {sl : Nat → Nat} (hC : RC s r K L sl) {w : List Nat} (hw : Wk K w) (b : Nat) (hb : b < 512) (hT : ∀ j, j < L.length → (lnk L j).1 = w → ∃ d : Nat, d < 512 ∧ sl ((b + d) % 512) = j + 1 ∧ ∀ d', d' < d → sl ((b + d') % 512) ≠ 0) : ∃ q : Nat, q < 512 ∧ iterP (fLX6_slotOf_25 (M h s) (h + r) (i64 (cw w : Int))) (i32 (b : Int), 0) = some (.inl (i32 (q : Int))) ∧ ((∃ j : Nat, j < L.length ∧ (lnk L j).1 = w ∧ sl q = j + 1) ∨ ((∀ j : Nat, j < L.length → (lnk L j).1 ≠ w) ∧ sl q = 0 ∧ ∃ d : Nat, d < 512 ∧ q = (b + d) % 512 ∧ ∀ d', d' < d → sl ((b + d') % 512) ≠ 0)) := by
  obtain ⟨i1, i2, i3, i4, i5, i6, i7, i8, -⟩ := hC
  have hsl : ∀ q, q < 512 → sl q ≠ 0 → sl q - 1 < L.length := fun q hq hn => by have := i8.1 q hq; omega
  have key := loop_find (F := fLX6_slotOf_25 (M h s) (h + r) (i64 (cw w : Int))) (fun d => decide (sl ((b + d) % 512) = 0 ∨ (lnk L (sl ((b + d) % 512) - 1)).1 = w)) (fun d => (i32 (((b + d) % 512 : Nat) : Int), i32 (d : Int))) (.inr (i32 (((b + 512) % 512 : Nat) : Int))) (fun d => .inl (i32 (((b + d) % 512 : Nat) : Int))) 512 ?_ ?_ (x := (i32 (b : Int), 0)) (by
      show (i32 (b : Int), (0 : Int32)) = (i32 (((b + 0) % 512 : Nat) : Int), i32 ((0 : Nat) : Int))
      rw [Nat.add_zero, Nat.mod_eq_of_lt hb]; rfl)
  · have hex : ∃ d, (List.range 512).find? (fun d => decide (sl ((b + d) % 512) = 0 ∨ (lnk L (sl ((b + d) % 512) - 1)).1 = w)) = some d := by
      obtain ⟨d, hd, he⟩ := i8.empty i4 (b)
      cases hf : (List.range 512).find? (fun d => decide (sl ((b + d) % 512) = 0 ∨ (lnk L (sl ((b + d) % 512) - 1)).1 = w)) with
      | some d => exact ⟨d, rfl⟩
      | none =>
        have := find_none hf d hd
        rw [decide_eq_false_iff_not] at this
        exact absurd (Or.inl he) this
    obtain ⟨d, hd⟩ := hex
    rw [hd] at key
    obtain ⟨d1, d2, d3⟩ := find_some hd
    rw [decide_eq_true_eq] at d2
    have d3' : ∀ d', d' < d → sl ((b + d') % 512) ≠ 0 ∧ (lnk L (sl ((b + d') % 512) - 1)).1 ≠ w := fun d' hd' => by
      have := d3 d' hd'
      rw [decide_eq_false_iff_not] at this
      exact ⟨fun e => this (Or.inl e), fun e => this (Or.inr e)⟩
    refine ⟨(b + d) % 512, by omega, ?_, ?_⟩
    · exact key
    · by_cases c : sl ((b + d) % 512) = 0
      · refine Or.inr ⟨fun j hj he => ?_, c, d, d1, rfl, fun d' hd' => (d3' d' hd').1⟩
        obtain ⟨d0, z1, z2, z3⟩ := hT j hj he
        rcases Nat.lt_trichotomy d d0 with hlt | heq | hgt
        · exact z3 d hlt c
        · subst heq; omega
        · refine (d3' d0 hgt).2 ?_
          rw [z2, Nat.add_sub_cancel]; exact he
      · rcases d2 with d2 | d2
        · exact absurd d2 c
        · exact Or.inl ⟨_, hsl _ (by omega) c, d2, by omega⟩
  · intro d hd
    have hq : (b + d) % 512 < 512 := by omega
    have hs1 := i8.1 _ hq
    unfold fLX6_slotOf_25
    rw [if_neg (by rw [q512]; rw [le32 (by omega) (by omega) (by omega) (by omega)]; omega)]
    simp only [re_s H, sb, ra_s H (show (0 : Int) ≤ (((b + d) % 512 : Nat) : Int) by omega) (show (((b + d) % 512 : Nat) : Int) < 512 by omega), tn0, i7 _ hq, re_w H]
    by_cases c : sl ((b + d) % 512) = 0
    · rw [if_pos (by rw [c]; rfl), if_pos (decide_eq_true (Or.inl c))]
    · have hj := hsl _ hq c
      rw [if_neg (by rw [q0]; rw [eq32 (by omega) (by omega) (by omega) (by omega)]; omega), q1, s32, ra_w H (by omega) (by omega), sb, show ((sl ((b + d) % 512) : Int) - 1).toNat = sl ((b + d) % 512) - 1 by omega, i2 _ hj]
      by_cases c2 : (lnk L (sl ((b + d) % 512) - 1)).1 = w
      · rw [if_pos (by rw [cmp0, c2]), if_pos (decide_eq_true (Or.inr c2))]
      · rw [if_neg (by rw [cmp0, cwe ((i5 _ (lnk_mem hj)).ww hK) (hw.ww hK)]; exact c2), if_neg (by rw [decide_eq_true_eq]; rintro (e | e) <;> contradiction), xlet_eq, xlet_eq, a32, a32, show ((((b + d) % 512 : Nat) : Int) + 1) = (((b + d) % 512 + 1 : Nat) : Int) from rfl, and511n, show ((b + d) % 512 + 1) % 512 = (b + (d + 1)) % 512 by omega]; rfl
  · unfold fLX6_slotOf_25
    rw [if_pos (by rw [q512]; rw [le32 (by omega) (by omega) (by omega) (by omega)]; omega)]
theorem c_slotOf (H : Hr r) {K : Nat} (hK : K ≤ 5) {L : RLs} {sl : Nat → Nat} (hC : RC s r K L sl) {w : List Nat} (hw : Wk K w) : ∃ q : Nat, q < 512 ∧ fX6_slotOf (M h s) (h + r) (i64 (cw w : Int)) = some (i32 (q : Int)) ∧ ((∃ j : Nat, j < L.length ∧ (lnk L j).1 = w ∧ sl q = j + 1) ∨ ((∀ j : Nat, j < L.length → (lnk L j).1 ≠ w) ∧ sl q = 0 ∧ ∃ d : Nat, d < 512 ∧ q = (hsh w + d) % 512 ∧ ∀ d', d' < d → sl ((hsh w + d') % 512) ≠ 0)) := by
  obtain ⟨q, h1, h2, h3⟩ := c_slot0 (h := h) H hK hC hw (hsh w) (hsh_lt w) (fun j hj he => by
    have := hC.2.2.2.2.2.2.2.1.2.2 j hj
    rw [he] at this
    exact this)
  refine ⟨q, h1, ?_, h3⟩
  unfold fX6_slotOf
  rw [xlet_eq, and511, ← hsh_def, h2, sb]
theorem c_find (H : Hr r) {K : Nat} (hK : K ≤ 5) {L : RLs} {sl : Nat → Nat} (hC : RC s r K L sl) {w : List Nat} (hw : Wk K w) : fX6_find (M h s) (h + r) (i64 (cw w : Int)) = some (i32 (match (List.range L.length).find? (fun j => decide ((lnk L j).1 = w)) with
    | some j => (j : Int)
    | none => -1)) := by
  obtain ⟨q, hq, e1, e2⟩ := c_slotOf (h := h) H hK hC hw
  obtain ⟨i1, i2, i3, i4, i5, i6, i7, i8, -⟩ := hC
  unfold fX6_find
  simp only [re_s H, sb, re_o H, e1, ra_s H (show (0 : Int) ≤ (q : Int) by omega) (show (q : Int) < 512 by omega), tn0, i7 q hq]
  rcases e2 with ⟨j, j1, j2, j3⟩ | ⟨j1, j2, -⟩
  · rw [find_first (P := fun j => decide ((lnk L j).1 = w)) (k := j) j1 (decide_eq_true j2) (fun i hi => decide_eq_false (fun e => by have := i6 i j (by omega) j1 (e.trans j2.symm); omega)), j3, q1, s32]
    simp only []
    congr 2
    omega
  · have : (List.range L.length).find? (fun j => decide ((lnk L j).1 = w)) = none := by
      rw [List.find?_eq_none]
      intro j hj
      rw [decide_eq_true_eq]
      exact j1 j (List.mem_range.mp hj)
    rw [this, j2]; rfl
end HR
