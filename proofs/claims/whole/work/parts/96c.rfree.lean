/-! FREE in the reference -/
def endB (S : Sys) (w : List Nat) : Bool := ((List.range (nr S)).find? (fun r => decide ((rl S r).length ≤ w.length ∧ w.drop (w.length - (rl S r).length) = rl S r))).isSome
def frS (S : Sys) : Nat → List Nat → Nat
  | 0, _ => 1
  | m + 1, w => (List.range S.1).foldl (fun a x => a + (if endB S (w ++ [x]) = true then 0 else frS S m (w ++ [x]))) 0
section RF
variable {h : Nat} {s : Mm} {S : Sys}
theorem r_ends (hS : WfS S) (hR : RR (s.2 309) S) {w : List Nat} (hw : Ww w) : fX12_endsLeft (M h s) (h + 308) (i64 (r6 w : Int)) = some (if endB S w = true then 1 else 0) := by
  have h12 := hS.2.1
  have h16 := hw.1
  unfold fX12_endsLeft endB
  rw [r_len hw, sb, loop_find (fun r => decide ((rl S r).length ≤ w.length ∧ w.drop (w.length - (rl S r).length) = rl S r)) (fun r => i32 (r : Int)) (.inr ()) (fun _ => .inl ()) (nr S) ?_ ?_ (show (0 : Int32) = _ from rfl), sb]
  · cases (List.range (nr S)).find? (fun r => decide ((rl S r).length ≤ w.length ∧ w.drop (w.length - (rl S r).length) = rl S r)) <;> rfl
  · intro r hr
    have hl := wl hS hr
    have hl16 := hl.1
    unfold fLX12_endsLeft_8
    rw [o_308, sb, r_rules hR, sb, if_neg (by rw [le32 (by omega) (by omega) (by omega) (by omega)]; omega), sb, r_left hS hR hr, sb, r_len hl, sb]
    by_cases c1 : (rl S r).length ≤ w.length
    · rw [if_neg (by rw [lt32 (by omega) (by omega) (by omega) (by omega)]; omega), s32, show ((w.length : Int) - ((rl S r).length : Int)) = ((w.length - (rl S r).length : Nat) : Int) by omega, r_part hw (by omega), sb, sb, sb, List.take_of_length_le (by rw [List.length_drop]; omega)]
      by_cases c2 : w.drop (w.length - (rl S r).length) = rl S r
      · rw [if_pos (by rw [cmp0, c2]), if_pos (decide_eq_true ⟨c1, c2⟩)]
      · rw [if_neg (by rw [cmp0, r6e (hw.drop _) hl]; exact c2), if_neg (by rw [decide_eq_true_eq]; exact fun hc => c2 hc.2), xlet_eq, q1, a32]; rfl
    · rw [if_pos (by rw [lt32 (by omega) (by omega) (by omega) (by omega)]; omega), xlet_eq, q1, a32, if_neg (by rw [decide_eq_true_eq]; exact fun hc => c1 hc.1)]; rfl
  · unfold fLX12_endsLeft_8
    rw [o_308, sb, r_rules hR, sb, if_pos (by rw [le32 (by omega) (by omega) (by omega) (by omega)]; omega)]
theorem r_frees_0 (hS : WfS S) (hR : RR (s.2 309) S) : ∀ (m : Nat) (w : List Nat), m ≤ 0 → w.length + m ≤ 16 → (∀ x ∈ w, x < S.1) → fX12_frees_d0 (M h s) (h + 308) (i64 (r6 w : Int)) (i32 (m : Int)) = some (i32 (frS S m w : Int)) := by
  intro m w hm hl hw
  have hm : m = 0 := by omega
  subst hm
  unfold fX12_frees_d0
  rw [if_pos (show i32 ((0 : Nat) : Int) = 0 from rfl)]; rfl
theorem r_frees_1 (hS : WfS S) (hR : RR (s.2 309) S) : ∀ (m : Nat) (w : List Nat), m ≤ 1 → w.length + m ≤ 16 → (∀ x ∈ w, x < S.1) → fX12_frees_d1 (M h s) (h + 308) (i64 (r6 w : Int)) (i32 (m : Int)) = some (i32 (frS S m w : Int)) := by
  intro m w hm hl hw
  have hK := hS.1.2
  unfold fX12_frees_d1
  cases m with
  | zero => rw [if_pos (show i32 ((0 : Nat) : Int) = 0 from rfl)]; rfl
  | succ m =>
    rw [if_neg (by rw [q0]; rw [eq32 (by omega) (by omega) (by omega) (by omega)]; omega), loop_fold (fun (a : Nat) x => a + (if endB S (w ++ [x]) = true then 0 else frS S m (w ++ [x]))) (fun a x => (i32 (a : Int), i32 ((x : Int) + 1))) (fun a => i32 (a : Int)) S.1 ?_ ?_ (a := 0) (show ((0 : Int32), (1 : Int32)) = _ from rfl), sb]
    · rfl
    · intro a x hx
      have hwx : ∀ y ∈ w ++ [x], y < S.1 := fun y hy => by
        rcases List.mem_append.mp hy with hy | hy
        · exact hw y hy
        · rw [List.mem_singleton.mp hy]; exact hx
      have hWx : Ww (w ++ [x]) := ⟨by rw [List.length_append]; show w.length + 1 ≤ 16; omega, fun y hy => by have := hwx y hy; omega⟩
      have er : (6 : Int64) * i64 (r6 w : Int) + (i32 ((x : Int) + 1)).toInt64 = i64 (r6 (w ++ [x]) : Int) := by
        rw [Q6, m64, toL (by omega) (by omega), a64, r6_snoc]
        congr 1
      unfold fLX12_frees_d1_12
      rw [o_308, sb, r_letters hR, sb, if_neg (by rw [lt32 (by omega) (by omega) (by omega) (by omega)]; omega), xlet_eq, er, sb, r_ends hS hR hWx, sb]
      by_cases c : endB S (w ++ [x]) = true
      · rw [if_pos c, if_neg (by decide), xlet_eq, xlet_eq, q0, a32, q1, a32, if_pos c, Int.add_zero]; rfl
      · rw [if_neg c, if_pos rfl, sb, q1, s32, show (((m + 1 : Nat) : Int) - 1) = (m : Int) by omega, r_frees_0 hS hR m (w ++ [x]) (by omega) (by rw [List.length_append]; show w.length + 1 + m ≤ 16; omega) hwx, sb, xlet_eq, xlet_eq, a32, a32, if_neg c]; rfl
    · intro a
      unfold fLX12_frees_d1_12
      rw [o_308, sb, r_letters hR, sb, if_pos (by rw [lt32 (by omega) (by omega) (by omega) (by omega)]; omega)]
theorem r_frees_2 (hS : WfS S) (hR : RR (s.2 309) S) : ∀ (m : Nat) (w : List Nat), m ≤ 2 → w.length + m ≤ 16 → (∀ x ∈ w, x < S.1) → fX12_frees_d2 (M h s) (h + 308) (i64 (r6 w : Int)) (i32 (m : Int)) = some (i32 (frS S m w : Int)) := by
  intro m w hm hl hw
  have hK := hS.1.2
  unfold fX12_frees_d2
  cases m with
  | zero => rw [if_pos (show i32 ((0 : Nat) : Int) = 0 from rfl)]; rfl
  | succ m =>
    rw [if_neg (by rw [q0]; rw [eq32 (by omega) (by omega) (by omega) (by omega)]; omega), loop_fold (fun (a : Nat) x => a + (if endB S (w ++ [x]) = true then 0 else frS S m (w ++ [x]))) (fun a x => (i32 (a : Int), i32 ((x : Int) + 1))) (fun a => i32 (a : Int)) S.1 ?_ ?_ (a := 0) (show ((0 : Int32), (1 : Int32)) = _ from rfl), sb]
    · rfl
    · intro a x hx
      have hwx : ∀ y ∈ w ++ [x], y < S.1 := fun y hy => by
        rcases List.mem_append.mp hy with hy | hy
        · exact hw y hy
        · rw [List.mem_singleton.mp hy]; exact hx
      have hWx : Ww (w ++ [x]) := ⟨by rw [List.length_append]; show w.length + 1 ≤ 16; omega, fun y hy => by have := hwx y hy; omega⟩
      have er : (6 : Int64) * i64 (r6 w : Int) + (i32 ((x : Int) + 1)).toInt64 = i64 (r6 (w ++ [x]) : Int) := by
        rw [Q6, m64, toL (by omega) (by omega), a64, r6_snoc]
        congr 1
      unfold fLX12_frees_d2_12
      rw [o_308, sb, r_letters hR, sb, if_neg (by rw [lt32 (by omega) (by omega) (by omega) (by omega)]; omega), xlet_eq, er, sb, r_ends hS hR hWx, sb]
      by_cases c : endB S (w ++ [x]) = true
      · rw [if_pos c, if_neg (by decide), xlet_eq, xlet_eq, q0, a32, q1, a32, if_pos c, Int.add_zero]; rfl
      · rw [if_neg c, if_pos rfl, sb, q1, s32, show (((m + 1 : Nat) : Int) - 1) = (m : Int) by omega, r_frees_1 hS hR m (w ++ [x]) (by omega) (by rw [List.length_append]; show w.length + 1 + m ≤ 16; omega) hwx, sb, xlet_eq, xlet_eq, a32, a32, if_neg c]; rfl
    · intro a
      unfold fLX12_frees_d2_12
      rw [o_308, sb, r_letters hR, sb, if_pos (by rw [lt32 (by omega) (by omega) (by omega) (by omega)]; omega)]
theorem r_frees_3 (hS : WfS S) (hR : RR (s.2 309) S) : ∀ (m : Nat) (w : List Nat), m ≤ 3 → w.length + m ≤ 16 → (∀ x ∈ w, x < S.1) → fX12_frees_d3 (M h s) (h + 308) (i64 (r6 w : Int)) (i32 (m : Int)) = some (i32 (frS S m w : Int)) := by
  intro m w hm hl hw
  have hK := hS.1.2
  unfold fX12_frees_d3
  cases m with
  | zero => rw [if_pos (show i32 ((0 : Nat) : Int) = 0 from rfl)]; rfl
  | succ m =>
    rw [if_neg (by rw [q0]; rw [eq32 (by omega) (by omega) (by omega) (by omega)]; omega), loop_fold (fun (a : Nat) x => a + (if endB S (w ++ [x]) = true then 0 else frS S m (w ++ [x]))) (fun a x => (i32 (a : Int), i32 ((x : Int) + 1))) (fun a => i32 (a : Int)) S.1 ?_ ?_ (a := 0) (show ((0 : Int32), (1 : Int32)) = _ from rfl), sb]
    · rfl
    · intro a x hx
      have hwx : ∀ y ∈ w ++ [x], y < S.1 := fun y hy => by
        rcases List.mem_append.mp hy with hy | hy
        · exact hw y hy
        · rw [List.mem_singleton.mp hy]; exact hx
      have hWx : Ww (w ++ [x]) := ⟨by rw [List.length_append]; show w.length + 1 ≤ 16; omega, fun y hy => by have := hwx y hy; omega⟩
      have er : (6 : Int64) * i64 (r6 w : Int) + (i32 ((x : Int) + 1)).toInt64 = i64 (r6 (w ++ [x]) : Int) := by
        rw [Q6, m64, toL (by omega) (by omega), a64, r6_snoc]
        congr 1
      unfold fLX12_frees_d3_12
      rw [o_308, sb, r_letters hR, sb, if_neg (by rw [lt32 (by omega) (by omega) (by omega) (by omega)]; omega), xlet_eq, er, sb, r_ends hS hR hWx, sb]
      by_cases c : endB S (w ++ [x]) = true
      · rw [if_pos c, if_neg (by decide), xlet_eq, xlet_eq, q0, a32, q1, a32, if_pos c, Int.add_zero]; rfl
      · rw [if_neg c, if_pos rfl, sb, q1, s32, show (((m + 1 : Nat) : Int) - 1) = (m : Int) by omega, r_frees_2 hS hR m (w ++ [x]) (by omega) (by rw [List.length_append]; show w.length + 1 + m ≤ 16; omega) hwx, sb, xlet_eq, xlet_eq, a32, a32, if_neg c]; rfl
    · intro a
      unfold fLX12_frees_d3_12
      rw [o_308, sb, r_letters hR, sb, if_pos (by rw [lt32 (by omega) (by omega) (by omega) (by omega)]; omega)]
theorem r_frees_4 (hS : WfS S) (hR : RR (s.2 309) S) : ∀ (m : Nat) (w : List Nat), m ≤ 4 → w.length + m ≤ 16 → (∀ x ∈ w, x < S.1) → fX12_frees_d4 (M h s) (h + 308) (i64 (r6 w : Int)) (i32 (m : Int)) = some (i32 (frS S m w : Int)) := by
  intro m w hm hl hw
  have hK := hS.1.2
  unfold fX12_frees_d4
  cases m with
  | zero => rw [if_pos (show i32 ((0 : Nat) : Int) = 0 from rfl)]; rfl
  | succ m =>
    rw [if_neg (by rw [q0]; rw [eq32 (by omega) (by omega) (by omega) (by omega)]; omega), loop_fold (fun (a : Nat) x => a + (if endB S (w ++ [x]) = true then 0 else frS S m (w ++ [x]))) (fun a x => (i32 (a : Int), i32 ((x : Int) + 1))) (fun a => i32 (a : Int)) S.1 ?_ ?_ (a := 0) (show ((0 : Int32), (1 : Int32)) = _ from rfl), sb]
    · rfl
    · intro a x hx
      have hwx : ∀ y ∈ w ++ [x], y < S.1 := fun y hy => by
        rcases List.mem_append.mp hy with hy | hy
        · exact hw y hy
        · rw [List.mem_singleton.mp hy]; exact hx
      have hWx : Ww (w ++ [x]) := ⟨by rw [List.length_append]; show w.length + 1 ≤ 16; omega, fun y hy => by have := hwx y hy; omega⟩
      have er : (6 : Int64) * i64 (r6 w : Int) + (i32 ((x : Int) + 1)).toInt64 = i64 (r6 (w ++ [x]) : Int) := by
        rw [Q6, m64, toL (by omega) (by omega), a64, r6_snoc]
        congr 1
      unfold fLX12_frees_d4_12
      rw [o_308, sb, r_letters hR, sb, if_neg (by rw [lt32 (by omega) (by omega) (by omega) (by omega)]; omega), xlet_eq, er, sb, r_ends hS hR hWx, sb]
      by_cases c : endB S (w ++ [x]) = true
      · rw [if_pos c, if_neg (by decide), xlet_eq, xlet_eq, q0, a32, q1, a32, if_pos c, Int.add_zero]; rfl
      · rw [if_neg c, if_pos rfl, sb, q1, s32, show (((m + 1 : Nat) : Int) - 1) = (m : Int) by omega, r_frees_3 hS hR m (w ++ [x]) (by omega) (by rw [List.length_append]; show w.length + 1 + m ≤ 16; omega) hwx, sb, xlet_eq, xlet_eq, a32, a32, if_neg c]; rfl
    · intro a
      unfold fLX12_frees_d4_12
      rw [o_308, sb, r_letters hR, sb, if_pos (by rw [lt32 (by omega) (by omega) (by omega) (by omega)]; omega)]
theorem r_frees_5 (hS : WfS S) (hR : RR (s.2 309) S) : ∀ (m : Nat) (w : List Nat), m ≤ 5 → w.length + m ≤ 16 → (∀ x ∈ w, x < S.1) → fX12_frees_d5 (M h s) (h + 308) (i64 (r6 w : Int)) (i32 (m : Int)) = some (i32 (frS S m w : Int)) := by
  intro m w hm hl hw
  have hK := hS.1.2
  unfold fX12_frees_d5
  cases m with
  | zero => rw [if_pos (show i32 ((0 : Nat) : Int) = 0 from rfl)]; rfl
  | succ m =>
    rw [if_neg (by rw [q0]; rw [eq32 (by omega) (by omega) (by omega) (by omega)]; omega), loop_fold (fun (a : Nat) x => a + (if endB S (w ++ [x]) = true then 0 else frS S m (w ++ [x]))) (fun a x => (i32 (a : Int), i32 ((x : Int) + 1))) (fun a => i32 (a : Int)) S.1 ?_ ?_ (a := 0) (show ((0 : Int32), (1 : Int32)) = _ from rfl), sb]
    · rfl
    · intro a x hx
      have hwx : ∀ y ∈ w ++ [x], y < S.1 := fun y hy => by
        rcases List.mem_append.mp hy with hy | hy
        · exact hw y hy
        · rw [List.mem_singleton.mp hy]; exact hx
      have hWx : Ww (w ++ [x]) := ⟨by rw [List.length_append]; show w.length + 1 ≤ 16; omega, fun y hy => by have := hwx y hy; omega⟩
      have er : (6 : Int64) * i64 (r6 w : Int) + (i32 ((x : Int) + 1)).toInt64 = i64 (r6 (w ++ [x]) : Int) := by
        rw [Q6, m64, toL (by omega) (by omega), a64, r6_snoc]
        congr 1
      unfold fLX12_frees_d5_12
      rw [o_308, sb, r_letters hR, sb, if_neg (by rw [lt32 (by omega) (by omega) (by omega) (by omega)]; omega), xlet_eq, er, sb, r_ends hS hR hWx, sb]
      by_cases c : endB S (w ++ [x]) = true
      · rw [if_pos c, if_neg (by decide), xlet_eq, xlet_eq, q0, a32, q1, a32, if_pos c, Int.add_zero]; rfl
      · rw [if_neg c, if_pos rfl, sb, q1, s32, show (((m + 1 : Nat) : Int) - 1) = (m : Int) by omega, r_frees_4 hS hR m (w ++ [x]) (by omega) (by rw [List.length_append]; show w.length + 1 + m ≤ 16; omega) hwx, sb, xlet_eq, xlet_eq, a32, a32, if_neg c]; rfl
    · intro a
      unfold fLX12_frees_d5_12
      rw [o_308, sb, r_letters hR, sb, if_pos (by rw [lt32 (by omega) (by omega) (by omega) (by omega)]; omega)]
theorem r_frees_6 (hS : WfS S) (hR : RR (s.2 309) S) : ∀ (m : Nat) (w : List Nat), m ≤ 6 → w.length + m ≤ 16 → (∀ x ∈ w, x < S.1) → fX12_frees_d6 (M h s) (h + 308) (i64 (r6 w : Int)) (i32 (m : Int)) = some (i32 (frS S m w : Int)) := by
  intro m w hm hl hw
  have hK := hS.1.2
  unfold fX12_frees_d6
  cases m with
  | zero => rw [if_pos (show i32 ((0 : Nat) : Int) = 0 from rfl)]; rfl
  | succ m =>
    rw [if_neg (by rw [q0]; rw [eq32 (by omega) (by omega) (by omega) (by omega)]; omega), loop_fold (fun (a : Nat) x => a + (if endB S (w ++ [x]) = true then 0 else frS S m (w ++ [x]))) (fun a x => (i32 (a : Int), i32 ((x : Int) + 1))) (fun a => i32 (a : Int)) S.1 ?_ ?_ (a := 0) (show ((0 : Int32), (1 : Int32)) = _ from rfl), sb]
    · rfl
    · intro a x hx
      have hwx : ∀ y ∈ w ++ [x], y < S.1 := fun y hy => by
        rcases List.mem_append.mp hy with hy | hy
        · exact hw y hy
        · rw [List.mem_singleton.mp hy]; exact hx
      have hWx : Ww (w ++ [x]) := ⟨by rw [List.length_append]; show w.length + 1 ≤ 16; omega, fun y hy => by have := hwx y hy; omega⟩
      have er : (6 : Int64) * i64 (r6 w : Int) + (i32 ((x : Int) + 1)).toInt64 = i64 (r6 (w ++ [x]) : Int) := by
        rw [Q6, m64, toL (by omega) (by omega), a64, r6_snoc]
        congr 1
      unfold fLX12_frees_d6_12
      rw [o_308, sb, r_letters hR, sb, if_neg (by rw [lt32 (by omega) (by omega) (by omega) (by omega)]; omega), xlet_eq, er, sb, r_ends hS hR hWx, sb]
      by_cases c : endB S (w ++ [x]) = true
      · rw [if_pos c, if_neg (by decide), xlet_eq, xlet_eq, q0, a32, q1, a32, if_pos c, Int.add_zero]; rfl
      · rw [if_neg c, if_pos rfl, sb, q1, s32, show (((m + 1 : Nat) : Int) - 1) = (m : Int) by omega, r_frees_5 hS hR m (w ++ [x]) (by omega) (by rw [List.length_append]; show w.length + 1 + m ≤ 16; omega) hwx, sb, xlet_eq, xlet_eq, a32, a32, if_neg c]; rfl
    · intro a
      unfold fLX12_frees_d6_12
      rw [o_308, sb, r_letters hR, sb, if_pos (by rw [lt32 (by omega) (by omega) (by omega) (by omega)]; omega)]
theorem r_frees_7 (hS : WfS S) (hR : RR (s.2 309) S) : ∀ (m : Nat) (w : List Nat), m ≤ 7 → w.length + m ≤ 16 → (∀ x ∈ w, x < S.1) → fX12_frees_d7 (M h s) (h + 308) (i64 (r6 w : Int)) (i32 (m : Int)) = some (i32 (frS S m w : Int)) := by
  intro m w hm hl hw
  have hK := hS.1.2
  unfold fX12_frees_d7
  cases m with
  | zero => rw [if_pos (show i32 ((0 : Nat) : Int) = 0 from rfl)]; rfl
  | succ m =>
    rw [if_neg (by rw [q0]; rw [eq32 (by omega) (by omega) (by omega) (by omega)]; omega), loop_fold (fun (a : Nat) x => a + (if endB S (w ++ [x]) = true then 0 else frS S m (w ++ [x]))) (fun a x => (i32 (a : Int), i32 ((x : Int) + 1))) (fun a => i32 (a : Int)) S.1 ?_ ?_ (a := 0) (show ((0 : Int32), (1 : Int32)) = _ from rfl), sb]
    · rfl
    · intro a x hx
      have hwx : ∀ y ∈ w ++ [x], y < S.1 := fun y hy => by
        rcases List.mem_append.mp hy with hy | hy
        · exact hw y hy
        · rw [List.mem_singleton.mp hy]; exact hx
      have hWx : Ww (w ++ [x]) := ⟨by rw [List.length_append]; show w.length + 1 ≤ 16; omega, fun y hy => by have := hwx y hy; omega⟩
      have er : (6 : Int64) * i64 (r6 w : Int) + (i32 ((x : Int) + 1)).toInt64 = i64 (r6 (w ++ [x]) : Int) := by
        rw [Q6, m64, toL (by omega) (by omega), a64, r6_snoc]
        congr 1
      unfold fLX12_frees_d7_12
      rw [o_308, sb, r_letters hR, sb, if_neg (by rw [lt32 (by omega) (by omega) (by omega) (by omega)]; omega), xlet_eq, er, sb, r_ends hS hR hWx, sb]
      by_cases c : endB S (w ++ [x]) = true
      · rw [if_pos c, if_neg (by decide), xlet_eq, xlet_eq, q0, a32, q1, a32, if_pos c, Int.add_zero]; rfl
      · rw [if_neg c, if_pos rfl, sb, q1, s32, show (((m + 1 : Nat) : Int) - 1) = (m : Int) by omega, r_frees_6 hS hR m (w ++ [x]) (by omega) (by rw [List.length_append]; show w.length + 1 + m ≤ 16; omega) hwx, sb, xlet_eq, xlet_eq, a32, a32, if_neg c]; rfl
    · intro a
      unfold fLX12_frees_d7_12
      rw [o_308, sb, r_letters hR, sb, if_pos (by rw [lt32 (by omega) (by omega) (by omega) (by omega)]; omega)]
theorem r_frees_8 (hS : WfS S) (hR : RR (s.2 309) S) : ∀ (m : Nat) (w : List Nat), m ≤ 8 → w.length + m ≤ 16 → (∀ x ∈ w, x < S.1) → fX12_frees_d8 (M h s) (h + 308) (i64 (r6 w : Int)) (i32 (m : Int)) = some (i32 (frS S m w : Int)) := by
  intro m w hm hl hw
  have hK := hS.1.2
  unfold fX12_frees_d8
  cases m with
  | zero => rw [if_pos (show i32 ((0 : Nat) : Int) = 0 from rfl)]; rfl
  | succ m =>
    rw [if_neg (by rw [q0]; rw [eq32 (by omega) (by omega) (by omega) (by omega)]; omega), loop_fold (fun (a : Nat) x => a + (if endB S (w ++ [x]) = true then 0 else frS S m (w ++ [x]))) (fun a x => (i32 (a : Int), i32 ((x : Int) + 1))) (fun a => i32 (a : Int)) S.1 ?_ ?_ (a := 0) (show ((0 : Int32), (1 : Int32)) = _ from rfl), sb]
    · rfl
    · intro a x hx
      have hwx : ∀ y ∈ w ++ [x], y < S.1 := fun y hy => by
        rcases List.mem_append.mp hy with hy | hy
        · exact hw y hy
        · rw [List.mem_singleton.mp hy]; exact hx
      have hWx : Ww (w ++ [x]) := ⟨by rw [List.length_append]; show w.length + 1 ≤ 16; omega, fun y hy => by have := hwx y hy; omega⟩
      have er : (6 : Int64) * i64 (r6 w : Int) + (i32 ((x : Int) + 1)).toInt64 = i64 (r6 (w ++ [x]) : Int) := by
        rw [Q6, m64, toL (by omega) (by omega), a64, r6_snoc]
        congr 1
      unfold fLX12_frees_d8_12
      rw [o_308, sb, r_letters hR, sb, if_neg (by rw [lt32 (by omega) (by omega) (by omega) (by omega)]; omega), xlet_eq, er, sb, r_ends hS hR hWx, sb]
      by_cases c : endB S (w ++ [x]) = true
      · rw [if_pos c, if_neg (by decide), xlet_eq, xlet_eq, q0, a32, q1, a32, if_pos c, Int.add_zero]; rfl
      · rw [if_neg c, if_pos rfl, sb, q1, s32, show (((m + 1 : Nat) : Int) - 1) = (m : Int) by omega, r_frees_7 hS hR m (w ++ [x]) (by omega) (by rw [List.length_append]; show w.length + 1 + m ≤ 16; omega) hwx, sb, xlet_eq, xlet_eq, a32, a32, if_neg c]; rfl
    · intro a
      unfold fLX12_frees_d8_12
      rw [o_308, sb, r_letters hR, sb, if_pos (by rw [lt32 (by omega) (by omega) (by omega) (by omega)]; omega)]
theorem r_frees_9 (hS : WfS S) (hR : RR (s.2 309) S) : ∀ (m : Nat) (w : List Nat), m ≤ 9 → w.length + m ≤ 16 → (∀ x ∈ w, x < S.1) → fX12_frees_d9 (M h s) (h + 308) (i64 (r6 w : Int)) (i32 (m : Int)) = some (i32 (frS S m w : Int)) := by
  intro m w hm hl hw
  have hK := hS.1.2
  unfold fX12_frees_d9
  cases m with
  | zero => rw [if_pos (show i32 ((0 : Nat) : Int) = 0 from rfl)]; rfl
  | succ m =>
    rw [if_neg (by rw [q0]; rw [eq32 (by omega) (by omega) (by omega) (by omega)]; omega), loop_fold (fun (a : Nat) x => a + (if endB S (w ++ [x]) = true then 0 else frS S m (w ++ [x]))) (fun a x => (i32 (a : Int), i32 ((x : Int) + 1))) (fun a => i32 (a : Int)) S.1 ?_ ?_ (a := 0) (show ((0 : Int32), (1 : Int32)) = _ from rfl), sb]
    · rfl
    · intro a x hx
      have hwx : ∀ y ∈ w ++ [x], y < S.1 := fun y hy => by
        rcases List.mem_append.mp hy with hy | hy
        · exact hw y hy
        · rw [List.mem_singleton.mp hy]; exact hx
      have hWx : Ww (w ++ [x]) := ⟨by rw [List.length_append]; show w.length + 1 ≤ 16; omega, fun y hy => by have := hwx y hy; omega⟩
      have er : (6 : Int64) * i64 (r6 w : Int) + (i32 ((x : Int) + 1)).toInt64 = i64 (r6 (w ++ [x]) : Int) := by
        rw [Q6, m64, toL (by omega) (by omega), a64, r6_snoc]
        congr 1
      unfold fLX12_frees_d9_12
      rw [o_308, sb, r_letters hR, sb, if_neg (by rw [lt32 (by omega) (by omega) (by omega) (by omega)]; omega), xlet_eq, er, sb, r_ends hS hR hWx, sb]
      by_cases c : endB S (w ++ [x]) = true
      · rw [if_pos c, if_neg (by decide), xlet_eq, xlet_eq, q0, a32, q1, a32, if_pos c, Int.add_zero]; rfl
      · rw [if_neg c, if_pos rfl, sb, q1, s32, show (((m + 1 : Nat) : Int) - 1) = (m : Int) by omega, r_frees_8 hS hR m (w ++ [x]) (by omega) (by rw [List.length_append]; show w.length + 1 + m ≤ 16; omega) hwx, sb, xlet_eq, xlet_eq, a32, a32, if_neg c]; rfl
    · intro a
      unfold fLX12_frees_d9_12
      rw [o_308, sb, r_letters hR, sb, if_pos (by rw [lt32 (by omega) (by omega) (by omega) (by omega)]; omega)]
theorem r_free (hS : WfS S) (hR : RR (s.2 309) S) {n : Nat} (hn : n ≤ 8) : fX12_frees_d9 (M h s) (h + 308) 0 (i32 (n : Int)) = some (i32 (frS S n [] : Int)) := by
  have := r_frees_9 (h := h) hS hR n [] (by omega) (by simp; omega) (fun x hx => by cases hx)
  rw [r6_nil] at this
  exact this
end RF
