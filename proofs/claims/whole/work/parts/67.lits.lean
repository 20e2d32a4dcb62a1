/-! literals (none of them by mere unfolding, so that simp keeps proofs), operations of 32 bits, loops that search, loops that add up -/
theorem q0 : (0 : Int32) = i32 0 := by decide
theorem q1 : (1 : Int32) = i32 1 := by decide
theorem q2 : (2 : Int32) = i32 2 := by decide
theorem q3 : (3 : Int32) = i32 3 := by decide
theorem q4 : (4 : Int32) = i32 4 := by decide
theorem q5 : (5 : Int32) = i32 5 := by decide
theorem q6 : (6 : Int32) = i32 6 := by decide
theorem q7 : (7 : Int32) = i32 7 := by decide
theorem q8 : (8 : Int32) = i32 8 := by decide
theorem q9 : (9 : Int32) = i32 9 := by decide
theorem q10 : (10 : Int32) = i32 10 := by decide
theorem q11 : (11 : Int32) = i32 11 := by decide
theorem q12 : (12 : Int32) = i32 12 := by decide
theorem q13 : (13 : Int32) = i32 13 := by decide
theorem q14 : (14 : Int32) = i32 14 := by decide
theorem q15 : (15 : Int32) = i32 15 := by decide
theorem q16 : (16 : Int32) = i32 16 := by decide
theorem q17 : (17 : Int32) = i32 17 := by decide
theorem q18 : (18 : Int32) = i32 18 := by decide
theorem q19 : (19 : Int32) = i32 19 := by decide
theorem q20 : (20 : Int32) = i32 20 := by decide
theorem q21 : (21 : Int32) = i32 21 := by decide
theorem q22 : (22 : Int32) = i32 22 := by decide
theorem q23 : (23 : Int32) = i32 23 := by decide
theorem q24 : (24 : Int32) = i32 24 := by decide
theorem q25 : (25 : Int32) = i32 25 := by decide
theorem q26 : (26 : Int32) = i32 26 := by decide
theorem q27 : (27 : Int32) = i32 27 := by decide
theorem q28 : (28 : Int32) = i32 28 := by decide
theorem q29 : (29 : Int32) = i32 29 := by decide
theorem q30 : (30 : Int32) = i32 30 := by decide
theorem q31 : (31 : Int32) = i32 31 := by decide
theorem q32 : (32 : Int32) = i32 32 := by decide
theorem q33 : (33 : Int32) = i32 33 := by decide
theorem q34 : (34 : Int32) = i32 34 := by decide
theorem q36 : (36 : Int32) = i32 36 := by decide
theorem q40 : (40 : Int32) = i32 40 := by decide
theorem q43 : (43 : Int32) = i32 43 := by decide
theorem q44 : (44 : Int32) = i32 44 := by decide
theorem q46 : (46 : Int32) = i32 46 := by decide
theorem q47 : (47 : Int32) = i32 47 := by decide
theorem q48 : (48 : Int32) = i32 48 := by decide
theorem q57 : (57 : Int32) = i32 57 := by decide
theorem q58 : (58 : Int32) = i32 58 := by decide
theorem q59 : (59 : Int32) = i32 59 := by decide
theorem q60 : (60 : Int32) = i32 60 := by decide
theorem q61 : (61 : Int32) = i32 61 := by decide
theorem q62 : (62 : Int32) = i32 62 := by decide
theorem q63 : (63 : Int32) = i32 63 := by decide
theorem q90 : (90 : Int32) = i32 90 := by decide
theorem q97 : (97 : Int32) = i32 97 := by decide
theorem q100 : (100 : Int32) = i32 100 := by decide
theorem q122 : (122 : Int32) = i32 122 := by decide
theorem q200 : (200 : Int32) = i32 200 := by decide
theorem q255 : (255 : Int32) = i32 255 := by decide
theorem q256 : (256 : Int32) = i32 256 := by decide
theorem q294 : (294 : Int32) = i32 294 := by decide
theorem q300 : (300 : Int32) = i32 300 := by decide
theorem q430 : (430 : Int32) = i32 430 := by decide
theorem q500 : (500 : Int32) = i32 500 := by decide
theorem q511 : (511 : Int32) = i32 511 := by decide
theorem q512 : (512 : Int32) = i32 512 := by decide
theorem q640 : (640 : Int32) = i32 640 := by decide
theorem q656 : (656 : Int32) = i32 656 := by decide
theorem q700 : (700 : Int32) = i32 700 := by decide
theorem q1000 : (1000 : Int32) = i32 1000 := by decide
theorem q2304 : (2304 : Int32) = i32 2304 := by decide
theorem q5880 : (5880 : Int32) = i32 5880 := by decide
theorem q1000000 : (1000000 : Int32) = i32 1000000 := by decide
theorem Q0 : (0 : Int64) = i64 0 := by decide
theorem Q1 : (1 : Int64) = i64 1 := by decide
theorem Q6 : (6 : Int64) = i64 6 := by decide
theorem Q16 : (16 : Int64) = i64 16 := by decide
theorem Q31 : (31 : Int64) = i64 31 := by decide
theorem Q63 : (63 : Int64) = i64 63 := by decide
theorem qm1 : (-1 : Int32) = i32 (-1) := by decide
theorem Qm1 : (-1 : Int64) = i64 (-1) := by decide
theorem sb {α β : Type} (v : α) (f : α → Option β) : (some v).bind f = f v := Eq.trans (congrArg (fun g => (some v).bind g) (Eq.refl f)) (Eq.refl (f v))
theorem bv32 (a : Nat) : (i32 (a : Int)).toBitVec = BitVec.ofNat 32 a := by
  unfold i32; rw [Int32.toBitVec_ofInt]; exact BitVec.ofInt_natCast 32 a
theorem and32 (a b : Nat) : i32 (a : Int) &&& i32 (b : Int) = i32 ((a &&& b : Nat) : Int) := by
  apply Int32.toBitVec_inj.mp
  rw [Int32.toBitVec_and, bv32, bv32, bv32]
  apply BitVec.eq_of_toNat_eq
  simp [BitVec.toNat_and, Nat.and_mod_two_pow]
theorem or32 (a b : Nat) : i32 (a : Int) ||| i32 (b : Int) = i32 ((a ||| b : Nat) : Int) := by
  apply Int32.toBitVec_inj.mp
  rw [Int32.toBitVec_or, bv32, bv32, bv32]
  apply BitVec.eq_of_toNat_eq
  simp [BitVec.toNat_or, Nat.or_mod_two_pow]
theorem smod32 {s : Nat} (hs : s < 32) : ((BitVec.ofNat 32 s).smod 32) = BitVec.ofNat 32 s := by
  apply BitVec.eq_of_toInt_eq
  rw [BitVec.toInt_smod]
  have h2 : (BitVec.ofNat 32 s).toInt = s := by
    rw [BitVec.toInt_eq_toNat_of_lt (by simp; omega)]; simp; omega
  rw [h2]
  show Int.fmod (s : Int) 32 = s
  rw [Int.fmod_eq_emod_of_nonneg _ (by omega)]
  omega
theorem and31 {s : Nat} (hs : s < 32) : i32 (s : Int) &&& 31 = i32 (s : Int) := by
  rw [show (31 : Int32) = i32 ((31 : Nat) : Int) from by decide, and32, show (31 : Nat) = 2 ^ 5 - 1 from rfl, Nat.and_two_pow_sub_one_eq_mod, Nat.mod_eq_of_lt (by omega)]
theorem sar32 {a s : Nat} (ha : a < 2147483648) (hs : s < 32) : i32 (a : Int) >>> (i32 (s : Int) &&& 31) = i32 ((a / 2 ^ s : Nat) : Int) := by
  rw [and31 hs]
  apply Int32.toBitVec_inj.mp
  rw [Int32.toBitVec_shiftRight, bv32, bv32, bv32, smod32 hs]
  have hm : (BitVec.ofNat 32 a).msb = false := by
    rw [BitVec.msb_eq_false_iff_two_mul_lt]; simp; omega
  show (BitVec.ofNat 32 a).sshiftRight (BitVec.ofNat 32 s).toNat = _
  rw [BitVec.sshiftRight_eq_of_msb_false hm]
  apply BitVec.eq_of_toNat_eq
  have := Nat.div_le_self a (2 ^ s)
  simp only [BitVec.toNat_ushiftRight, BitVec.toNat_ofNat]
  rw [Nat.mod_eq_of_lt (show s < 2 ^ 32 by omega), Nat.mod_eq_of_lt (show a < 2 ^ 32 by omega), Nat.shiftRight_eq_div_pow, Nat.mod_eq_of_lt (show a / 2 ^ s < 2 ^ 32 by omega)]
theorem shl32 {a s : Nat} (hs : s < 32) : i32 (a : Int) <<< (i32 (s : Int) &&& 31) = i32 ((a * 2 ^ s : Nat) : Int) := by
  rw [and31 hs]
  apply Int32.toBitVec_inj.mp
  rw [Int32.toBitVec_shiftLeft, bv32, bv32, bv32, smod32 hs]
  apply BitVec.eq_of_toNat_eq
  simp [BitVec.toNat_shiftLeft, Nat.shiftLeft_eq, Nat.mod_eq_of_lt (show s < 4294967296 by omega)]
theorem and15 {a : Nat} : i32 (a : Int) &&& 15 = i32 ((a % 16 : Nat) : Int) := by
  rw [show (15 : Int32) = i32 ((15 : Nat) : Int) from by decide, and32, show (15 : Nat) = 2 ^ 4 - 1 from rfl, Nat.and_two_pow_sub_one_eq_mod]
theorem imin_of {a b : Nat} (ha : a ≤ 2147483647) (hb : b ≤ 2147483647) : imin (i32 (a : Int)) (i32 (b : Int)) = i32 ((min a b : Nat) : Int) := by
  unfold imin
  by_cases h : b < a
  · rw [if_pos (by rw [lt32 (by omega) (by omega) (by omega) (by omega)]; omega), Nat.min_eq_right (by omega)]
  · rw [if_neg (by rw [lt32 (by omega) (by omega) (by omega) (by omega)]; omega), Nat.min_eq_left (by omega)]
theorem imax_of {a b : Nat} (ha : a ≤ 2147483647) (hb : b ≤ 2147483647) : imax (i32 (a : Int)) (i32 (b : Int)) = i32 ((max a b : Nat) : Int) := by
  unfold imax
  by_cases h : a < b
  · rw [if_pos (by rw [lt32 (by omega) (by omega) (by omega) (by omega)]; omega), Nat.max_eq_right (by omega)]
  · rw [if_neg (by rw [lt32 (by omega) (by omega) (by omega) (by omega)]; omega), Nat.max_eq_left (by omega)]
theorem loop_fold {A α β : Type} {F : α → Option (α ⊕ β)} (g : A → Nat → A) (emb : A → Nat → α) (fin : A → β) (n : Nat) (hs : ∀ a k, k < n → F (emb a k) = some (.inl (emb (g a k) (k + 1)))) (he : ∀ a, F (emb a n) = some (.inr (fin a))) {a : A} {x : α} (h0 : x = emb a 0) : iterP F x = some (fin ((List.range n).foldl g a)) := by
  have := loop_fun (F := F) (E := Empty) (fun a k => .inl (g a k)) emb fin (fun e => e.elim) n hs he h0
  rw [walk_fold] at this
  exact this
theorem walk_find {X : Type} (P : X → Bool) (l : List X) : walk (fun (_ : Unit) x => if P x then .inr x else .inl ()) () l = match l.find? P with
    | some x => .inr x
    | none => .inl () := by
  induction l with
  | nil => rfl
  | cons x l ih =>
    by_cases h : P x = true
    · simp only [walk, List.find?_cons, h, if_true]
    · rw [Bool.not_eq_true] at h
      simp only [walk, List.find?_cons, h]
      exact ih
theorem loop_find {α β : Type} {F : α → Option (α ⊕ β)} (P : Nat → Bool) (emb : Nat → α) (fin : β) (ex : Nat → β) (n : Nat) (hs : ∀ k, k < n → F (emb k) = some (if P k then .inr (ex k) else .inl (emb (k + 1)))) (he : F (emb n) = some (.inr fin)) {x : α} (h0 : x = emb 0) : iterP F x = some (match (List.range n).find? P with | some k => ex k | none => fin) := by
  have := loop_fun (F := F) (E := Nat) (fun (_ : Unit) k => if P k then .inr k else .inl ()) (fun _ k => emb k) (fun _ => fin) ex n (fun a r hr => by
    rw [hs r hr]
    by_cases h : P r = true
    · rw [if_pos h, if_pos h, Sum.elim_inr]
    · rw [if_neg h, if_neg h, Sum.elim_inl]) (fun _ => he) (a := ()) h0
  rw [this, walk_find]
  cases (List.range n).find? P <;> rfl
theorem find_none {n : Nat} {P : Nat → Bool} (h : (List.range n).find? P = none) : ∀ k, k < n → P k = false := by
  intro k hk
  have := List.find?_eq_none.mp h k (List.mem_range.mpr hk)
  simpa using this
theorem find_some {n k : Nat} {P : Nat → Bool} (h : (List.range n).find? P = some k) : k < n ∧ P k = true ∧ ∀ j, j < k → P j = false := by
  have := List.find?_range_eq_some.mp h
  refine ⟨List.mem_range.mp this.2.1, this.1, fun j hj => ?_⟩
  have := this.2.2 j hj
  simpa using this
theorem find_first {n k : Nat} {P : Nat → Bool} (h1 : k < n) (h2 : P k = true) (h3 : ∀ j, j < k → P j = false) : (List.range n).find? P = some k :=
  List.find?_range_eq_some.mpr ⟨h2, List.mem_range.mpr h1, fun j hj => by rw [h3 j hj]; rfl⟩
theorem foldl_congr' {A X : Type} {g g' : A → X → A} (l : List X) (h : ∀ a x, x ∈ l → g a x = g' a x) : ∀ a, l.foldl g a = l.foldl g' a := by
  induction l with
  | nil => intro a; rfl
  | cons x l ih =>
    intro a
    rw [List.foldl_cons, List.foldl_cons, h a x (by simp)]
    exact ih (fun a y hy => h a y (by simp [hy])) _
/-- a loop by index over a list -/
theorem fold_list {A X : Type} (g : A → X → A) (d : X) (l : List X) : ∀ a, (List.range l.length).foldl (fun a k => g a (l.getD k d)) a = l.foldl g a := by
  intro a
  have key : ∀ (n : Nat), n ≤ l.length → (List.range n).foldl (fun a k => g a (l.getD k d)) a = (l.take n).foldl g a := by
    intro n
    induction n with
    | zero => intro _; rfl
    | succ n ih =>
      intro hn
      rw [List.range_succ, List.foldl_append, ih (by omega), List.take_succ_eq_append_getElem (by omega), List.foldl_append]
      simp only [List.foldl_cons, List.foldl_nil]
      rw [List.getD_eq_getElem?_getD, List.getElem?_eq_getElem (by omega)]; rfl
  rw [key l.length (Nat.le_refl _), List.take_length]
theorem sum_fold (l : List Nat) : ∀ c, l.foldl (fun a x => a + x) c = c + l.sum := by
  induction l with
  | nil => intro c; simp
  | cons x l ih => intro c; rw [List.foldl_cons, ih, List.sum_cons]; omega
theorem fold_sum (f : Nat → Nat) (w : List Nat) (c : Nat) : (List.range w.length).foldl (fun a k => a + f (w.getD k 0)) c = c + (w.map f).sum := by
  rw [fold_list (fun a x => a + f x) 0 w c, ← sum_fold, List.foldl_map]
theorem ltr_of {w : List Nat} {k : Nat} (hk : k < w.length) : ltr w k = ((w.getD k 0 : Nat) : Int) := by
  unfold ltr
  rw [List.getD_eq_getElem?_getD, List.getElem?_eq_getElem hk]; rfl
theorem getD_lt {w : List Nat} {n k : Nat} (hw : ∀ x ∈ w, x < n) (hk : k < w.length) : w.getD k 0 < n := by
  rw [List.getD_eq_getElem?_getD, List.getElem?_eq_getElem hk]
  exact hw _ (List.getElem_mem hk)

