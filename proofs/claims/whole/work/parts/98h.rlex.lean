/-! READING in the reference: tokens -/
def sg8 (b : Nat) : Int := if b < 128 then (b : Int) else (b : Int) - 256
theorem sg_255 : ∀ b : Nat, b < 256 → i32 (sg8 b) &&& 255 = i32 (b : Int) := by decide +kernel
theorem sg_b {b : Nat} (hb : b < 256) : -128 ≤ sg8 b ∧ sg8 b ≤ 127 := by unfold sg8; split <;> omega
def RTr (s : Mm) (B : List Nat) : Prop := s.1 308 8 = i32 (B.length : Int) ∧ (∀ j, j < B.length → s.1 312 j = i32 (sg8 (bt B j))) ∧ B.length ≤ 300 ∧ ∀ j, bt B j < 256
def tok (B : List Nat) (t : Tk) : Nat := if t.2.1 = 0 then 1002 else if t.2.1 = 1 then 1000 else if t.2.1 = 2 then 1001 else bt B t.1
def CTr (s : Mm) (B : List Nat) (t : Tk) : Prop := RTr s B ∧ s.1 308 9 = i32 (t.2.2 : Int) ∧ s.1 308 10 = i32 (t.1 : Int) ∧ s.1 308 11 = i32 (tok B t : Int) ∧ (t.2.1 = 2 → ∃ v : Nat, s.1 308 12 = i32 (v : Int) ∧ min 1000 v = pNm B t ∧ v ≤ 1000000)
theorem fw_next {P : Nat → Bool} {n p : Nat} (hp : p < n) (h : P p = true) : fw P n p = fw P n (p + 1) := by
  unfold fw
  rw [show n - p = (n - (p + 1)) + 1 by omega, fwd, if_pos h]
section LR
variable {h : Nat} {s : Mm} {B : List Nat}
theorem RTr.f {j : Nat} {v : Int32} (hT : RTr s B) (hj : j ≠ 8) : RTr (mI s 308 (upd (s.1 308) j v)) B := ⟨by rw [mI_at, upd_ne (Ne.symm hj)]; exact hT.1, fun i hi => by rw [mI_ne (by decide)]; exact hT.2.1 i hi, hT.2.2⟩
theorem bt_out {p : Nat} (hp : B.length ≤ p) : bt B p = 0 := by
  unfold bt
  rw [List.getD_eq_getElem?_getD, List.getElem?_eq_none hp]; rfl
theorem r_byteAt (hT : RTr s B) {p : Nat} (hp : p ≤ 300) : fX12_byteAt (M h s) (h + 308) (i32 (p : Int)) = some (i32 (bt B p : Int)) := by
  have hl := hT.2.2.1
  unfold fX12_byteAt
  rw [g_308_8, sb, hT.1]
  by_cases c : B.length ≤ p
  · rw [if_pos (by rw [le32 (by omega) (by omega) (by omega) (by omega)]; omega), bt_out c]; rfl
  · rw [if_neg (by rw [le32 (by omega) (by omega) (by omega) (by omega)]; omega), g_308_6, sb, a_312 (by omega) (by omega), sb, tn0, hT.2.1 p (by omega), sg_255 _ (hT.2.2.2 p)]
theorem r_isIn {a b c : Int} (ha : -2147483648 ≤ a ∧ a ≤ 2147483647) (hb : -2147483648 ≤ b ∧ b ≤ 2147483647) (hc : -2147483648 ≤ c ∧ c ≤ 2147483647) : fX12_isIn (i64 a) (i64 b) (i64 c) = some (if b ≤ a ∧ a ≤ c then 1 else 0) := by
  unfold fX12_isIn
  by_cases c1 : a < b
  · rw [if_pos (by rw [cmplt, t64 (by omega) (by omega), t64 (by omega) (by omega)]; exact c1), if_neg (by omega)]
  · rw [if_neg (by rw [cmplt, t64 (by omega) (by omega), t64 (by omega) (by omega)]; exact c1)]
    by_cases c2 : c < a
    · rw [if_pos (by rw [cmpgt, t64 (by omega) (by omega), t64 (by omega) (by omega)]; exact c2), if_neg (by omega)]
    · rw [if_neg (by rw [cmpgt, t64 (by omega) (by omega), t64 (by omega) (by omega)]; exact c2), if_pos (by omega)]
theorem zok01 {c : Prop} [Decidable c] : zok (if c then 1 else 0) = some (if c then 1 else 0) := by
  by_cases h9 : c
  · rw [if_pos h9]; decide
  · rw [if_neg h9]; decide
theorem r_small {b : Nat} (hb : b < 256) : fX12_isSmall (i32 (b : Int)) = some (if 97 ≤ b ∧ b ≤ 122 then 1 else 0) := by
  unfold fX12_isSmall
  rw [toL (by omega) (by omega), show (97 : Int64) = i64 97 from by decide, show (122 : Int64) = i64 122 from by decide, r_isIn (by omega) (by omega) (by omega), sb, zok01, sb]
  by_cases c : 97 ≤ b ∧ b ≤ 122
  · rw [if_pos c, if_pos (by omega)]
  · rw [if_neg c, if_neg (by omega)]
theorem r_figure {b : Nat} (hb : b < 256) : fX12_isFigure (i32 (b : Int)) = some (if 48 ≤ b ∧ b ≤ 57 then 1 else 0) := by
  unfold fX12_isFigure
  rw [toL (by omega) (by omega), show (48 : Int64) = i64 48 from by decide, show (57 : Int64) = i64 57 from by decide, r_isIn (by omega) (by omega) (by omega), sb, zok01, sb]
  by_cases c : 48 ≤ b ∧ b ≤ 57
  · rw [if_pos c, if_pos (by omega)]
  · rw [if_neg c, if_neg (by omega)]
theorem kdB_1 {p : Nat} : kdB B 1 p = true ↔ (97 ≤ bt B p ∧ bt B p ≤ 122) := by
  unfold kdB
  rw [decide_eq_true_eq]
  constructor
  · intro h9; exact (knd_1 h9).2
  · intro h9
    have hp : ¬ B.length ≤ p := fun hc => by rw [bt_out hc] at h9; omega
    unfold knd
    rw [if_neg hp, if_pos h9]
theorem kdB_2 {p : Nat} : kdB B 2 p = true ↔ (48 ≤ bt B p ∧ bt B p ≤ 57) := by
  unfold kdB
  rw [decide_eq_true_eq]
  constructor
  · intro h9; exact (knd_2 h9).2
  · intro h9
    have hp : ¬ B.length ≤ p := fun hc => by rw [bt_out hc] at h9; omega
    unfold knd
    rw [if_neg hp, if_neg (by omega), if_pos h9]
def vl1 (a x : Nat) : Nat := min 1000000 (10 * a + (x - 48))
/-- the number so far -/
def vlR (B : List Nat) (f q : Nat) : Nat := (slc B (f, 2, q)).foldl vl1 0
theorem slc_succ {f k q : Nat} (h1 : f ≤ q) (h2 : q < B.length) : slc B (f, k, q + 1) = slc B (f, k, q) ++ [bt B q] := by
  unfold slc
  simp only []
  rw [show q + 1 - f = (q - f) + 1 by omega, List.take_succ_eq_append_getElem (by rw [List.length_drop]; omega), List.getElem_drop]
  congr 2
  unfold bt
  rw [List.getD_eq_getElem?_getD, List.getElem?_eq_getElem h2]
  have key : ∀ i (hi : i < B.length), i = q → B[i] = B[q] := fun i hi e => by subst e; rfl
  exact key _ _ (by omega)
theorem vlR_succ {f q : Nat} (h1 : f ≤ q) (h2 : q < B.length) : vlR B f (q + 1) = vl1 (vlR B f q) (bt B q) := by
  unfold vlR
  rw [slc_succ h1 h2, List.foldl_append]; rfl
theorem vl_min (l : List Nat) : ∀ a b : Nat, min 1000 a = b → a ≤ 1000000 → min 1000 (l.foldl vl1 a) = l.foldl nm1 b ∧ l.foldl vl1 a ≤ 1000000 := by
  induction l with
  | nil => intro a b hab ha; exact ⟨hab, ha⟩
  | cons x l ih =>
    intro a b hab ha
    rw [List.foldl_cons, List.foldl_cons]
    refine ih _ _ ?_ ?_
    · unfold vl1 nm1; omega
    · unfold vl1; omega
theorem r_goes {p : Nat} (hT : RTr s B) (hp : s.1 308 9 = i32 (p : Int)) (hpl : p ≤ B.length) : ∃ s', fX12_goes (M h s) (h + 308) = some (M h s') ∧ Fy [] [9, 10, 11, 12] s s' ∧ CTr s' B (nx B p) := by
  have hl := hT.2.2.1
  have h1 : iterP (fLX12_goes_0 (h + 308)) (M h s) = some (M h (mI s 308 (upd (s.1 308) 9 (i32 (tkF B p : Int))))) := by
    have h0 : mI s 308 (upd (s.1 308) 9 (i32 (p : Int))) = s := by
      have : upd (s.1 308) 9 (i32 (p : Int)) = s.1 308 := by
        funext j
        by_cases c : j = 9
        · subst c; rw [upd_at, hp]
        · rw [upd_ne c]
      rw [this, mI_id]
    refine loop_fw (spc B) (fun p => M h (mI s 308 (upd (s.1 308) 9 (i32 (p : Int))))) (fun p => M h (mI s 308 (upd (s.1 308) 9 (i32 (p : Int))))) hpl (decide_eq_false (by omega)) (fun q a b _ => ?_) (by rw [h0])
    have hT1 : RTr (mI s 308 (upd (s.1 308) 9 (i32 (q : Int)))) B := hT.f (by decide)
    unfold fLX12_goes_0
    rw [g_308_9, sb, mI_at, upd_at, g_308_8, sb, hT1.1]
    by_cases c : B.length ≤ q
    · rw [if_pos (by rw [le32 (by omega) (by omega) (by omega) (by omega)]; omega), if_neg (by unfold spc; rw [decide_eq_true_eq]; omega)]
    · have hb := hT.2.2.2 q
      rw [if_neg (by rw [le32 (by omega) (by omega) (by omega) (by omega)]; omega), sb, o_308, sb, r_byteAt hT1 (by omega), sb, show (32 : Int32) = i32 32 from rfl]
      by_cases c1 : bt B q = 32
      · rw [if_pos (by rw [c1]; rfl), if_pos (by unfold spc; rw [decide_eq_true_eq]; omega), sb, w_308_9, sb, q1, a32, mI_mI, mI_at, upd_upd]; rfl
      · rw [if_neg (by rw [eq32 (by omega) (by omega) (by omega) (by omega)]; omega), sb, sb, r_byteAt hT1 (by omega), sb, q10]
        by_cases c2 : bt B q = 10
        · rw [if_pos (by rw [c2]; rfl), if_pos (by unfold spc; rw [decide_eq_true_eq]; omega), sb, w_308_9, sb, q1, a32, mI_mI, mI_at, upd_upd]; rfl
        · rw [if_neg (by rw [eq32 (by omega) (by omega) (by omega) (by omega)]; omega), if_neg (by unfold spc; rw [decide_eq_true_eq]; omega)]
  obtain ⟨f1, f2, f3, f4⟩ := fw_spec (spc B) hpl
  have hf : tkF B p = fw (spc B) B.length p := rfl
  have hkb := knd_3 B (tkF B p)
  have hbb := hT.2.2.2 (tkF B p)
  obtain ⟨s1, es1⟩ : ∃ s1, s1 = mI s 308 (upd (s.1 308) 9 (i32 (tkF B p : Int))) := ⟨_, rfl⟩
  have hT1 : RTr s1 B := by rw [es1]; exact hT.f (by decide)
  have a19 : s1.1 308 9 = i32 (tkF B p : Int) := by rw [es1, mI_at, upd_at]
  obtain ⟨s2, es2⟩ : ∃ s2, s2 = mI s1 308 (upd (s1.1 308) 10 (i32 (tkF B p : Int))) := ⟨_, rfl⟩
  have hT2 : RTr s2 B := by rw [es2]; exact hT1.f (by decide)
  have a29 : s2.1 308 9 = i32 (tkF B p : Int) := by rw [es2, mI_at, upd_ne (by decide)]; exact a19
  have a20 : s2.1 308 10 = i32 (tkF B p : Int) := by rw [es2, mI_at, upd_at]
  have F2 : Fy [] [9, 10, 11, 12] s s2 := by rw [es2, es1]; exact (Fy.rf.fI (by decide)).fI (by decide)
  have w2 : wrF (M h s1) (h + 308) 11 10 (.int (i32 (tkF B p : Int))) = some (M h s2) := by rw [w_308_10, es2]
  unfold fX12_goes fJX12_goes_m_50
  rw [h1, sb, ← es1, g_308_9, sb, a19, w2, sb, g_308_9, sb, a29, o_308, sb, r_byteAt hT2 (by omega), sb, sb, g_308_8, sb, hT2.1]
  by_cases c0 : tkF B p = B.length
  · have ek : knd B (tkF B p) = 0 := knd_0.mpr (by omega)
    rw [if_pos (by rw [c0]), w_308_11, sb]
    refine ⟨_, rfl, F2.fI (by decide), hT2.f (by decide), ?_, ?_, ?_, fun h9 => ?_⟩
    · rw [mI_at, upd_ne (by decide)]
      show _ = i32 (tkE B (tkF B p) : Int)
      unfold tkE
      rw [if_pos ek]; exact a29
    · rw [mI_at, upd_ne (by decide)]; exact a20
    · rw [mI_at, upd_at]
      show _ = i32 (tok B (nx B p) : Int)
      unfold tok nx
      simp only []
      rw [if_pos ek]; rfl
    · have h9 : knd B (tkF B p) = 2 := h9
      omega
  · have hk0 : ¬ knd B (tkF B p) = 0 := fun hc => by have := knd_0.mp hc; omega
    rw [if_neg (by rw [eq32 (by omega) (by omega) (by omega) (by omega)]; omega), r_small hbb, sb]
    by_cases c1 : 97 ≤ bt B (tkF B p) ∧ bt B (tkF B p) ≤ 122
    · have ek : knd B (tkF B p) = 1 := of_decide_eq_true (kdB_1.mpr c1)
      rw [if_pos c1, if_neg (by decide), w_308_11, sb]
      obtain ⟨s3, es3⟩ : ∃ s3, s3 = mI s2 308 (upd (s2.1 308) 11 1000) := ⟨_, rfl⟩
      have hT3 : RTr s3 B := by rw [es3]; exact hT2.f (by decide)
      have a39 : s3.1 308 9 = i32 (tkF B p : Int) := by rw [es3, mI_at, upd_ne (by decide)]; exact a29
      have hloop : iterP (fLX12_goes_102 (h + 308)) (M h s3) = some (M h (mI s3 308 (upd (s3.1 308) 9 (i32 (fw (kdB B 1) B.length (tkF B p) : Int))))) := by
        have h0 : mI s3 308 (upd (s3.1 308) 9 (i32 (tkF B p : Int))) = s3 := by
          have : upd (s3.1 308) 9 (i32 (tkF B p : Int)) = s3.1 308 := by
            funext j
            by_cases c : j = 9
            · subst c; rw [upd_at, a39]
            · rw [upd_ne c]
          rw [this, mI_id]
        refine loop_fw (kdB B 1) (fun p => M h (mI s3 308 (upd (s3.1 308) 9 (i32 (p : Int))))) (fun p => M h (mI s3 308 (upd (s3.1 308) 9 (i32 (p : Int))))) (by omega) (decide_eq_false (by rw [knd_0.mpr (Nat.le_refl _)]; decide)) (fun q a b _ => ?_) (by rw [h0])
        have hT4 : RTr (mI s3 308 (upd (s3.1 308) 9 (i32 (q : Int)))) B := hT3.f (by decide)
        unfold fLX12_goes_102
        rw [g_308_9, sb, mI_at, upd_at, o_308, sb, r_byteAt hT4 (by omega), sb, r_small (hT.2.2.2 q), sb]
        by_cases c : 97 ≤ bt B q ∧ bt B q ≤ 122
        · rw [if_pos c, if_neg (by decide), if_pos (kdB_1.mpr c), sb, w_308_9, sb, q1, a32, mI_mI, mI_at, upd_upd]; rfl
        · rw [if_neg c, if_pos rfl, if_neg (fun hc => c (kdB_1.mp hc))]
      rw [← es3, hloop, sb]
      refine ⟨_, rfl, ?_, hT3.f (by decide), ?_, ?_, ?_, fun h9 => ?_⟩
      · have F3 : Fy [] [9, 10, 11, 12] s s3 := by rw [es3]; exact F2.fI (by decide)
        exact F3.fI (by decide)
      · rw [mI_at, upd_at]
        show _ = i32 (tkE B (tkF B p) : Int)
        unfold tkE
        rw [if_neg hk0, ek, if_neg (by decide), fw_next (by omega) (kdB_1.mpr c1)]
      · rw [mI_at, upd_ne (by decide), es3, mI_at, upd_ne (by decide)]; exact a20
      · rw [mI_at, upd_ne (by decide), es3, mI_at, upd_at]
        show _ = i32 (tok B (nx B p) : Int)
        unfold tok nx
        simp only []
        rw [if_neg hk0, if_pos ek]; rfl
      · have h9 : knd B (tkF B p) = 2 := h9
        omega
    · rw [if_neg c1, if_pos rfl, r_figure hbb, sb]
      by_cases c2 : 48 ≤ bt B (tkF B p) ∧ bt B (tkF B p) ≤ 57
      · have ek : knd B (tkF B p) = 2 := of_decide_eq_true (kdB_2.mpr c2)
        rw [if_pos c2, if_neg (by decide), w_308_11, sb, w_308_12, sb]
        obtain ⟨s3, es3⟩ : ∃ s3, s3 = mI (mI s2 308 (upd (s2.1 308) 11 1001)) 308 (upd ((mI s2 308 (upd (s2.1 308) 11 1001)).1 308) 12 0) := ⟨_, rfl⟩
        have hT3 : RTr s3 B := by rw [es3]; exact (hT2.f (by decide)).f (by decide)
        have a39 : s3.1 308 9 = i32 (tkF B p : Int) := by rw [es3, mI_at, upd_ne (by decide), mI_at, upd_ne (by decide)]; exact a29
        have a32' : s3.1 308 12 = i32 ((0 : Nat) : Int) := by rw [es3, mI_at, upd_at]; rfl
        have hloop : iterP (fLX12_goes_148 (h + 308)) (M h s3) = some (M h (mI s3 308 (upd (upd (s3.1 308) 12 (i32 (vlR B (tkF B p) (fw (kdB B 2) B.length (tkF B p)) : Int))) 9 (i32 (fw (kdB B 2) B.length (tkF B p) : Int))))) := by
          have h0 : mI s3 308 (upd (upd (s3.1 308) 12 (i32 (vlR B (tkF B p) (tkF B p) : Int))) 9 (i32 (tkF B p : Int))) = s3 := by
            have ev : vlR B (tkF B p) (tkF B p) = 0 := by
              unfold vlR slc
              simp only []
              rw [Nat.sub_self, List.take_zero]; rfl
            have : upd (upd (s3.1 308) 12 (i32 (vlR B (tkF B p) (tkF B p) : Int))) 9 (i32 (tkF B p : Int)) = s3.1 308 := by
              funext j
              by_cases c : j = 9
              · subst c; rw [upd_at, a39]
              · rw [upd_ne c]
                by_cases c' : j = 12
                · subst c'; rw [upd_at, a32', ev]
                · rw [upd_ne c']
            rw [this, mI_id]
          refine loop_fw (kdB B 2) (fun q => M h (mI s3 308 (upd (upd (s3.1 308) 12 (i32 (vlR B (tkF B p) q : Int))) 9 (i32 (q : Int))))) (fun q => M h (mI s3 308 (upd (upd (s3.1 308) 12 (i32 (vlR B (tkF B p) q : Int))) 9 (i32 (q : Int))))) (by omega) (decide_eq_false (by rw [knd_0.mpr (Nat.le_refl _)]; decide)) (fun q a b _ => ?_) (by rw [h0])
          have hT4 : RTr (mI s3 308 (upd (upd (s3.1 308) 12 (i32 (vlR B (tkF B p) q : Int))) 9 (i32 (q : Int)))) B := ⟨by rw [mI_at, upd_ne (by decide), upd_ne (by decide)]; exact hT3.1, fun i hi => by rw [mI_ne (by decide)]; exact hT3.2.1 i hi, hT3.2.2⟩
          have hvb : vlR B (tkF B p) q ≤ 1000000 := (vl_min _ 0 0 (by decide) (by decide)).2
          have hbq := hT.2.2.2 q
          unfold fLX12_goes_148
          rw [g_308_9, sb, mI_at, upd_at, o_308, sb, r_byteAt hT4 (by omega), sb, r_figure hbq, sb]
          by_cases c : 48 ≤ bt B q ∧ bt B q ≤ 57
          · have hq : q < B.length := by
              by_cases hc : B.length ≤ q
              · rw [bt_out hc] at c; omega
              · omega
            rw [if_pos c, if_neg (by decide), if_pos (kdB_2.mpr c), g_308_12, sb, mI_at, upd_ne (by decide), upd_at, sb, sb, r_byteAt hT4 (by omega), sb, q10, m32, a32, q48, s32]
            have ei : imin 1000000 (i32 ((10 : Int) * (vlR B (tkF B p) q : Int) + (bt B q : Int) - 48)) = i32 (vlR B (tkF B p) (q + 1) : Int) := by
              rw [vlR_succ a hq, show (1000000 : Int32) = i32 ((1000000 : Nat) : Int) from by decide, show ((10 : Int) * (vlR B (tkF B p) q : Int) + (bt B q : Int) - 48) = ((10 * vlR B (tkF B p) q + (bt B q - 48) : Nat) : Int) by omega, imin_of (by omega) (by omega)]; rfl
            have a9 : ∀ v : Int32, (mI (mI s3 308 (upd (upd (s3.1 308) 12 (i32 (vlR B (tkF B p) q : Int))) 9 (i32 (q : Int)))) 308 (upd ((mI s3 308 (upd (upd (s3.1 308) 12 (i32 (vlR B (tkF B p) q : Int))) 9 (i32 (q : Int)))).1 308) 12 v)).1 308 9 = i32 (q : Int) := fun v => by rw [mI_at, upd_ne (by decide), mI_at, upd_at]
            rw [ei, w_308_12, sb, g_308_9, sb, a9, q1, a32, w_308_9, sb]
            refine congrArg (fun z => some (Sum.inl (M h z))) ?_
            rw [mI_mI, mI_at, mI_mI, mI_at]
            refine congrArg (fun f => mI s3 308 f) (funext (fun j => ?_))
            by_cases c' : j = 9
            · subst c'; rw [upd_at, upd_at]; rfl
            · rw [upd_ne c', upd_ne c']
              by_cases c'' : j = 12
              · subst c''; rw [upd_at, upd_at]
              · rw [upd_ne c'', upd_ne c'', upd_ne c', upd_ne c'']
          · rw [if_neg c, if_pos rfl, if_neg (fun hc => c (kdB_2.mp hc))]
        rw [← es3, hloop, sb]
        have F3 : Fy [] [9, 10, 11, 12] s s3 := by rw [es3]; exact (F2.fI (by decide)).fI (by decide)
        have F4 : Fy [] [9, 10, 11, 12] s (mI s3 308 (upd (upd (s3.1 308) 12 (i32 (vlR B (tkF B p) (fw (kdB B 2) B.length (tkF B p)) : Int))) 9 (i32 (fw (kdB B 2) B.length (tkF B p) : Int)))) := by
          have := (F3.fI (j := 12) (v := i32 (vlR B (tkF B p) (fw (kdB B 2) B.length (tkF B p)) : Int)) (by decide)).fI (j := 9) (v := i32 (fw (kdB B 2) B.length (tkF B p) : Int)) (by decide)
          rw [mI_mI, mI_at] at this
          exact this
        have eE : tkE B (tkF B p) = fw (kdB B 2) B.length (tkF B p) := by
          unfold tkE
          rw [if_neg hk0, ek, if_neg (by decide), fw_next (by omega) (kdB_2.mpr c2)]
        refine ⟨_, rfl, F4, ⟨by rw [mI_at, upd_ne (by decide), upd_ne (by decide)]; exact hT3.1, fun i hi => by rw [mI_ne (by decide)]; exact hT3.2.1 i hi, hT3.2.2⟩, ?_, ?_, ?_, fun _ => ?_⟩
        · rw [mI_at, upd_at]
          show _ = i32 (tkE B (tkF B p) : Int)
          rw [eE]
        · rw [mI_at, upd_ne (by decide), upd_ne (by decide), es3, mI_at, upd_ne (by decide), mI_at, upd_ne (by decide)]; exact a20
        · rw [mI_at, upd_ne (by decide), upd_ne (by decide), es3, mI_at, upd_ne (by decide), mI_at, upd_at]
          show _ = i32 (tok B (nx B p) : Int)
          unfold tok nx
          simp only []
          rw [if_neg hk0, ek, if_neg (by decide), if_pos rfl]; rfl
        · obtain ⟨y1, y2⟩ := vl_min (slc B (tkF B p, 2, fw (kdB B 2) B.length (tkF B p))) 0 0 (by decide) (by decide)
          refine ⟨vlR B (tkF B p) (fw (kdB B 2) B.length (tkF B p)), ?_, ?_, y2⟩
          · rw [mI_at, upd_ne (by decide), upd_at]
          · unfold vlR
            rw [y1]
            unfold pNm nx
            rw [eE, ek]
      · have ek : knd B (tkF B p) = 3 := by
          have n1 : ¬ knd B (tkF B p) = 1 := fun hc => c1 (knd_1 hc).2
          have n2 : ¬ knd B (tkF B p) = 2 := fun hc => c2 (knd_2 hc).2
          omega
        rw [if_neg c2, if_pos rfl, w_308_11, sb, g_308_9, sb, mI_at, upd_ne (by decide), a29, q1, a32, w_308_9, sb]
        refine ⟨_, rfl, (F2.fI (by decide)).fI (by decide), (hT2.f (by decide)).f (by decide), ?_, ?_, ?_, fun h9 => ?_⟩
        · rw [mI_at, upd_at]
          show _ = i32 (tkE B (tkF B p) : Int)
          unfold tkE
          rw [if_neg hk0, if_pos ek]; rfl
        · rw [mI_at, upd_ne (by decide), mI_at, upd_ne (by decide)]; exact a20
        · rw [mI_at, upd_ne (by decide), mI_at, upd_at]
          show _ = i32 (tok B (nx B p) : Int)
          unfold tok nx
          simp only []
          rw [ek, if_neg (by decide), if_neg (by decide), if_neg (by decide)]
        · have h9 : knd B (tkF B p) = 2 := h9
          omega
end LR
