/-! READING in the reference: checks, sides, numbers -/
def flt (s : Mm) (c f : Nat) : Mm := mI s 308 (upd (upd (s.1 308) 13 (i32 (c : Int))) 14 (i32 (f : Int)))
abbrev fin (s : Mm) : Prop := s.1 308 13 = 0
def TPr (s : Mm) (B : List Nat) : Prop := (∀ j, j < B.length → s.1 312 j = i32 (sg8 (bt B j))) ∧ B.length ≤ 300 ∧ ∀ j, bt B j < 256
def qSd (B : List Nat) (K : Nat) (t : Tk) (l m : Nat) : Nat := if t.2.1 = 1 then (if (l ≤ t.2.2 - t.1 ∧ t.2.2 - t.1 ≤ m) ∧ ∀ x ∈ slc B t, x < 97 + K then 0 else 2) else 1
theorem n10 : ¬ (1 : Int32) = 0 := by decide
section RR2
variable {h : Nat} {s : Mm} {B : List Nat} {t : Tk} {S : Sys}
theorem r_fine (hf : fin s) : fX12_fine (M h s) (h + 308) = some 1 := by
  unfold fX12_fine
  rw [g_308_13, sb, if_pos hf]
theorem r_nfine (hf : ¬ fin s) : fX12_fine (M h s) (h + 308) = some 0 := by
  unfold fX12_fine
  rw [g_308_13, sb, if_neg hf]
theorem zok0 : zok 0 = some 0 := by decide
theorem zok1 : zok 1 = some 1 := by decide
theorem r_ck1 (hf : fin s) {k : Int32} : fX12_check (M h s) (h + 308) 1 k = some (1, M h s) := by
  unfold fX12_check
  rw [o_308, sb, r_fine hf, sb, if_neg (by decide), if_neg (by decide), sb, sb, zok1, sb]
theorem flt_nf {c f : Nat} (hc : c ≠ 0) (hc2 : c ≤ 1000) : ¬ fin (flt s c f) := by
  unfold fin flt
  rw [mI_at, upd_ne (by decide), upd_at, z32 hc2]; exact hc
theorem r_ck0 (hf : fin s) {c f : Nat} (hc : c ≠ 0) (hc2 : c ≤ 1000) (h10 : s.1 308 10 = i32 (f : Int)) : fX12_check (M h s) (h + 308) 0 (i32 (c : Int)) = some (0, M h (flt s c f)) := by
  have e1 : mI (mI s 308 (upd (s.1 308) 13 (i32 (c : Int)))) 308 (upd ((mI s 308 (upd (s.1 308) 13 (i32 (c : Int)))).1 308) 14 (i32 (f : Int))) = flt s c f := by
    unfold flt
    rw [mI_mI, mI_at]
  have a10 : (mI s 308 (upd (s.1 308) 13 (i32 (c : Int)))).1 308 10 = i32 (f : Int) := by rw [mI_at, upd_ne (by decide)]; exact h10
  unfold fX12_check
  rw [o_308, sb, r_fine hf, sb, if_neg (by decide), if_pos rfl, w_308_13, sb, g_308_10, sb, a10, w_308_14, sb, e1, o_308, sb, r_nfine (flt_nf hc hc2), sb, zok0, sb]
theorem r_ckX (hf : ¬ fin s) {v k : Int32} : fX12_check (M h s) (h + 308) v k = some (0, M h s) := by
  unfold fX12_check
  rw [o_308, sb, r_nfine hf, sb, if_pos rfl, sb, sb, zok0, sb]
theorem r_mustX (hf : ¬ fin s) {v : Int32} : fX12_must (M h s) (h + 308) v = some (M h s) := by
  unfold fX12_must
  rw [o_308, sb, r_nfine hf, sb, if_pos rfl]
theorem tok_sg (hV : TV B t) (hb : ∀ j, bt B j < 256) {c : Nat} (hc : c < 256) : tok B t = c ↔ pSg B t c := by
  have h3 := hV.2.2.2.2.1
  have := hb t.1
  unfold tok
  by_cases c0 : t.2.1 = 0
  · rw [if_pos c0]; exact ⟨fun h9 => by omega, fun h9 => by have := h9.1; omega⟩
  · rw [if_neg c0]
    by_cases c1 : t.2.1 = 1
    · rw [if_pos c1]; exact ⟨fun h9 => by omega, fun h9 => by have := h9.1; omega⟩
    · rw [if_neg c1]
      by_cases c2 : t.2.1 = 2
      · rw [if_pos c2]; exact ⟨fun h9 => by omega, fun h9 => by have := h9.1; omega⟩
      · rw [if_neg c2]; exact ⟨fun h9 => ⟨by omega, h9⟩, fun h9 => h9.2⟩
theorem tok_b (hb : ∀ j, bt B j < 256) : tok B t ≤ 1002 := by
  have := hb t.1
  unfold tok
  split
  · omega
  · split
    · omega
    · split <;> omega
theorem tok_1 (hb : ∀ j, bt B j < 256) : tok B t = 1000 ↔ t.2.1 = 1 := by
  have := hb t.1
  unfold tok
  by_cases c0 : t.2.1 = 0
  · rw [if_pos c0]; omega
  · rw [if_neg c0]
    by_cases c1 : t.2.1 = 1
    · rw [if_pos c1]; omega
    · rw [if_neg c1]
      by_cases c2 : t.2.1 = 2
      · rw [if_pos c2]; omega
      · rw [if_neg c2]; omega
theorem tok_2 (hb : ∀ j, bt B j < 256) : tok B t = 1001 ↔ t.2.1 = 2 := by
  have := hb t.1
  unfold tok
  by_cases c0 : t.2.1 = 0
  · rw [if_pos c0]; omega
  · rw [if_neg c0]
    by_cases c1 : t.2.1 = 1
    · rw [if_pos c1]; omega
    · rw [if_neg c1]
      by_cases c2 : t.2.1 = 2
      · rw [if_pos c2]; omega
      · rw [if_neg c2]; omega
theorem tok_0 (hb : ∀ j, bt B j < 256) : tok B t = 1002 ↔ t.2.1 = 0 := by
  have := hb t.1
  unfold tok
  by_cases c0 : t.2.1 = 0
  · rw [if_pos c0]; omega
  · rw [if_neg c0]
    by_cases c1 : t.2.1 = 1
    · rw [if_pos c1]; omega
    · rw [if_neg c1]
      by_cases c2 : t.2.1 = 2
      · rw [if_pos c2]; omega
      · rw [if_neg c2]; omega
/-- so far so good: the token, the system that is read, nothing else changed -/
def Frd (s s' : Mm) : Prop := (∀ i, i ≠ 308 → s'.1 i = s.1 i) ∧ (∀ i, i ≠ 313 → s'.2 i = s.2 i) ∧ (∀ j, j ∉ [9, 10, 11, 12, 13, 14] → s'.1 308 j = s.1 308 j) ∧ (∀ j, 36 ≤ j → s'.2 313 j = s.2 313 j) ∧ (fin s' → fin s ∧ s'.1 308 14 = s.1 308 14)
theorem Frd.rf : Frd s s := ⟨fun _ _ => rfl, fun _ _ => rfl, fun _ _ => rfl, fun _ _ => rfl, fun h9 => ⟨h9, rfl⟩⟩
theorem Frd.tr {s' s'' : Mm} (h1 : Frd s s') (h2 : Frd s' s'') : Frd s s'' := ⟨fun i a => (h2.1 i a).trans (h1.1 i a), fun i a => (h2.2.1 i a).trans (h1.2.1 i a), fun i a => (h2.2.2.1 i a).trans (h1.2.2.1 i a), fun i a => (h2.2.2.2.1 i a).trans (h1.2.2.2.1 i a), fun h9 => ⟨(h1.2.2.2.2 (h2.2.2.2.2 h9).1).1, (h2.2.2.2.2 h9).2.trans (h1.2.2.2.2 (h2.2.2.2.2 h9).1).2⟩⟩
theorem Frd.of {s' : Mm} (h1 : Fy [] [9, 10, 11, 12] s s') : Frd s s' := ⟨fun i a => h1.2.1 i a (by simp), fun i _ => by rw [h1.1], fun j a => h1.2.2 j (fun hc => a (by simp at hc ⊢; omega)), fun j _ => by rw [h1.1], fun h9 => ⟨(h1.2.2 13 (by decide)).symm.trans h9, h1.2.2 14 (by decide)⟩⟩
theorem frd_flt {c f : Nat} (hc : c ≠ 0) (hc2 : c ≤ 1000) : Frd s (flt s c f) := ⟨fun i a => by unfold flt; rw [mI_ne a], fun i _ => rfl, fun j a => by
  unfold flt
  rw [mI_at, upd_ne (fun e => a (by rw [e]; decide)), upd_ne (fun e => a (by rw [e]; decide))], fun j _ => rfl, fun h9 => absurd h9 (by
  show ¬ (flt s c f).1 308 13 = 0
  unfold flt
  rw [mI_at, upd_ne (by decide), upd_at, z32 hc2]; exact hc)⟩
def CS (s : Mm) (B : List Nat) (t : Tk) (S : Sys) : Prop := CTr s B t ∧ TV B t ∧ fin s ∧ RR (s.2 313) S ∧ WfS S
theorem CTr.L {f : Nat → Int64} {i : Nat} (hC : CTr s B t) : CTr (mL s i f) B t := hC
theorem r_nx (hC : CS s B t S) : ∃ s', fX12_goes (M h s) (h + 308) = some (M h s') ∧ Frd s s' ∧ CS s' B (nx B t.2.2) S := by
  obtain ⟨c1, c2, c3, c4, c5⟩ := hC
  obtain ⟨s1, e1, f1, C1⟩ := r_goes (h := h) c1.1 c1.2.1 c2.2.1
  refine ⟨s1, e1, Frd.of f1, C1, (nx_tv c2.2.1).1, ?_, ?_, c5⟩
  · show s1.1 308 13 = 0
    rw [f1.2.2 13 (by decide)]; exact c3
  · rw [f1.1]; exact c4
theorem r_must (hC : CS s B t S) {c : Nat} (hc : c < 256) : ∃ s', fX12_must (M h s) (h + 308) (i32 (c : Int)) = some (M h s') ∧ Frd s s' ∧ ((pSg B t c ∧ CS s' B (nx B t.2.2) S) ∨ (¬ pSg B t c ∧ s' = flt s 1 t.1)) := by
  obtain ⟨c1, c2, c3, c4, c5⟩ := id hC
  have hb := c1.1.2.2.2
  have htb := tok_b (t := t) hb
  unfold fX12_must
  rw [o_308, sb, r_fine c3, sb, if_neg (by decide), g_308_11, sb, c1.2.2.2.1]
  by_cases c0 : pSg B t c
  · obtain ⟨s1, e1, f1, C1⟩ := r_nx (h := h) hC
    rw [if_pos (by rw [(tok_sg c2 hb hc).mpr c0]), sb, r_ck1 c3, sb, if_neg n10, o_308, sb, e1, sb]
    exact ⟨s1, rfl, f1, Or.inl ⟨c0, C1⟩⟩
  · have hne : ¬ tok B t = c := fun h9 => c0 ((tok_sg c2 hb hc).mp h9)
    rw [if_neg (by rw [eq32 (by omega) (by omega) (by omega) (by omega)]; omega), sb, show (1 : Int32) = i32 ((1 : Nat) : Int) from q1, r_ck0 c3 (by decide) (by decide) c1.2.2.1, sb, if_pos rfl]
    exact ⟨_, rfl, frd_flt (by decide) (by decide), Or.inr ⟨c0, rfl⟩⟩
theorem r_wordIs (hC : CTr s B t) (hV : TV B t) {i : Nat} {w : List Nat} (hw : Cst i w) : fX12_isWord (M h s) (h + 308) i = some (if pRw B t w then 1 else 0) := by
  obtain ⟨hT, h9', h10, h11, -⟩ := hC
  obtain ⟨w1, w2, w3, w4⟩ := hw
  have hb := hT.2.2.2
  have htb := tok_b (t := t) hb
  have hl := hT.2.2.1
  have hv1 := hV.1
  have hv2 := hV.2.1
  have hv3 := hV.2.2.1
  unfold fX12_isWord
  rw [g_308_11, sb, h11, q1000]
  by_cases c1 : t.2.1 = 1
  · rw [if_pos (by rw [(tok_1 hb).mpr c1]; rfl), g_308_9, sb, h9', g_308_10, sb, h10, w1, sb, s32]
    by_cases c2 : w.length = t.2.2 - t.1
    · rw [if_pos (by rw [eq32 (by omega) (by omega) (by omega) (by omega)]; omega), loop_find (fun j => decide (¬ bt B (t.1 + j) = w.getD j 0)) (fun j => i32 (j : Int)) (.inr ()) (fun _ => .inl ()) w.length ?_ ?_ (show (0 : Int32) = _ from rfl), sb]
      · cases ef : (List.range w.length).find? (fun j => decide (¬ bt B (t.1 + j) = w.getD j 0)) with
        | none =>
          have h9 := find_none ef
          rw [if_pos ⟨c1, (slc_eq hV c2).mpr (fun j hj => by
            have := h9 j hj
            rw [decide_eq_false_iff_not] at this
            exact Classical.not_not.mp this)⟩]
        | some j =>
          obtain ⟨j1, j2, -⟩ := find_some ef
          rw [if_neg (fun h9 => of_decide_eq_true j2 ((slc_eq hV c2).mp h9.2 j j1))]
      · intro j hj
        have x1 := hT.2.2.2 (t.1 + j)
        have x2 := w4 j
        unfold fLX12_isWord_30
        rw [w1, sb, if_neg (by rw [le32 (by omega) (by omega) (by omega) (by omega)]; omega), g_308_10, sb, h10, o_308, sb, a32, show i32 ((t.1 : Int) + (j : Int)) = i32 (((t.1 + j : Nat)) : Int) from rfl, r_byteAt hT (by omega), sb, w2 j hj, sb]
        by_cases c3 : bt B (t.1 + j) = w.getD j 0
        · rw [if_pos (by rw [c3]), if_neg (by rw [decide_eq_true_eq]; exact fun hn => hn c3), xlet_eq, q1, a32]; rfl
        · rw [if_neg (by rw [eq32 (by omega) (by omega) (by omega) (by omega)]; omega), if_pos (decide_eq_true c3)]
      · unfold fLX12_isWord_30
        rw [w1, sb, if_pos (by rw [le32 (by omega) (by omega) (by omega) (by omega)]; omega)]
    · rw [if_neg (by rw [eq32 (by omega) (by omega) (by omega) (by omega)]; omega), if_neg (fun h9 => c2 (by rw [← h9.2, slc_len hV]))]
  · have hne : ¬ tok B t = 1000 := fun h9 => c1 ((tok_1 hb).mp h9)
    rw [if_neg (by rw [eq32 (by omega) (by omega) (by omega) (by omega)]; omega), if_neg (fun h9 => c1 h9.1)]
theorem RTr.tp (hT : RTr s B) : TPr s B := hT.2
theorem r_areL (hT : TPr s B) {a e K : Nat} (hae : a ≤ e) (he : e ≤ B.length) (hK : K ≤ 5) (h1 : 1 ≤ K) : fX12_areLetters (M h s) (h + 308) (i32 (a : Int)) (i32 (e : Int)) (i64 (K : Int)) = some (if ∀ x ∈ slc B (a, 1, e), 97 ≤ x ∧ x < 97 + K then 1 else 0) := by
  have hl := hT.2.1
  have hsl : (slc B (a, 1, e)).length = e - a := by unfold slc; rw [List.length_take, List.length_drop]; show min (e - a) (B.length - a) = e - a; omega
  have hsg : ∀ j, j < e - a → (slc B (a, 1, e)).getD j 0 = bt B (a + j) := fun j hj => slc_get (t := (a, 1, e)) hj
  unfold fX12_areLetters
  rw [loop_find (fun j => decide (¬ (97 ≤ bt B (a + j) ∧ bt B (a + j) < 97 + K))) (fun j => i32 ((a + j : Nat) : Int)) (.inr ()) (fun _ => .inl ()) (e - a) ?_ ?_ (show i32 (a : Int) = _ from rfl), sb]
  · cases ef : (List.range (e - a)).find? (fun j => decide (¬ (97 ≤ bt B (a + j) ∧ bt B (a + j) < 97 + K))) with
    | none =>
      have h9 := find_none ef
      have hall : ∀ x ∈ slc B (a, 1, e), 97 ≤ x ∧ x < 97 + K := fun x hx => by
        obtain ⟨j, hj, ej⟩ := mem_getD (d := 0) hx
        rw [hsl] at hj
        rw [hsg j hj] at ej
        have := h9 j hj
        rw [decide_eq_false_iff_not] at this
        have := Classical.not_not.mp this
        omega
      rw [if_pos hall]
    | some j =>
      obtain ⟨j1, j2, -⟩ := find_some ef
      have hno : ¬ ∀ x ∈ slc B (a, 1, e), 97 ≤ x ∧ x < 97 + K := fun h9 => of_decide_eq_true j2 (by
        have := h9 ((slc B (a, 1, e)).getD j 0) (getD_mem (by rw [hsl]; exact j1))
        rw [hsg j j1] at this
        exact this)
      rw [if_neg hno]
  · intro j hj
    have hb := hT.2.2 (a + j)
    have hs := sg_b hb
    have ex : (97 ≤ sg8 (bt B (a + j)) ∧ sg8 (bt B (a + j)) ≤ 97 + (K : Int) - 1) ↔ (97 ≤ bt B (a + j) ∧ bt B (a + j) < 97 + K) := by
      unfold sg8
      split <;> omega
    unfold fLX12_areLetters_3
    rw [if_neg (by rw [le32 (by omega) (by omega) (by omega) (by omega)]; omega), g_308_6, sb, a_312 (by omega) (by omega), sb, tn0, hT.1 _ (by omega), toL (by omega) (by omega), show (97 : Int64) = i64 97 from by decide, show (1 : Int64) = i64 1 from by decide, a64, s64, r_isIn (by omega) (by omega) (by omega), sb]
    by_cases c : 97 ≤ bt B (a + j) ∧ bt B (a + j) < 97 + K
    · rw [if_pos (ex.mpr c), if_neg (by decide), if_neg (by rw [decide_eq_true_eq]; exact fun hn => hn c), xlet_eq, q1, a32]; rfl
    · rw [if_neg (fun h9 => c (ex.mp h9)), if_pos rfl, if_pos (decide_eq_true c)]
  · unfold fLX12_areLetters_3
    rw [if_pos (by rw [le32 (by omega) (by omega) (by omega) (by omega)]; omega)]
theorem r_spell (hT : TPr s B) {a e : Nat} (hae : a ≤ e) (he : e ≤ B.length) (h16 : e - a ≤ 16) (hx : ∀ x ∈ slc B (a, 1, e), 97 ≤ x ∧ x < 97 + 5) : fX12_spelled (M h s) (h + 308) (i32 (a : Int)) (i32 (e : Int)) = some (i64 (r6 ((slc B (a, 1, e)).map (fun x => x - 97)) : Int)) := by
  have hl := hT.2.1
  have hsl : (slc B (a, 1, e)).length = e - a := by unfold slc; rw [List.length_take, List.length_drop]; show min (e - a) (B.length - a) = e - a; omega
  have hsg : ∀ j, j < e - a → (slc B (a, 1, e)).getD j 0 = bt B (a + j) := fun j hj => slc_get (t := (a, 1, e)) hj
  unfold fX12_spelled
  rw [iter_to (e - a) (fun k => (i64 (r6 (((slc B (a, 1, e)).map (fun x => x - 97)).take k) : Int), i32 ((a + k : Nat) : Int))) (by rw [List.take_zero, r6_nil]; rfl) ?_ ?_ (b := i64 (r6 ((slc B (a, 1, e)).map (fun x => x - 97)) : Int)), sb]
  · intro k hk
    have hb := hT.2.2 (a + k)
    have hs := sg_b hb
    have hm := hx _ (getD_mem (d := 0) (show k < (slc B (a, 1, e)).length by omega))
    rw [hsg k hk] at hm
    have hsv : sg8 (bt B (a + k)) = (bt B (a + k) : Int) := by unfold sg8; rw [if_pos (by omega)]
    have et : ((slc B (a, 1, e)).map (fun x => x - 97)).take (k + 1) = ((slc B (a, 1, e)).map (fun x => x - 97)).take k ++ [bt B (a + k) - 97] := by
      rw [List.take_succ_eq_append_getElem (by rw [List.length_map]; omega), List.getElem_map]
      congr 3
      rw [← hsg k hk, List.getD_eq_getElem?_getD, List.getElem?_eq_getElem (by omega)]; rfl
    unfold fLX12_spelled_5
    simp only []
    rw [if_neg (by rw [le32 (by omega) (by omega) (by omega) (by omega)]; omega), g_308_6, sb, a_312 (by omega) (by omega), sb, tn0, hT.1 _ (by omega), hsv, toL (by omega) (by omega), xlet_eq, xlet_eq, show (6 : Int64) = i64 6 from by decide, m64, a64, show (97 : Int64) = i64 97 from by decide, s64, show (1 : Int64) = i64 1 from by decide, a64, q1, a32, et, r6_snoc]
    refine congrArg (fun z => some (Sum.inl z)) (Prod.ext ?_ ?_)
    · show i64 _ = i64 _
      congr 1; omega
    · show i32 _ = i32 _
      congr 1
  · unfold fLX12_spelled_5
    simp only []
    rw [if_pos (by rw [le32 (by omega) (by omega) (by omega) (by omega)]; omega), List.take_of_length_le (by rw [List.length_map]; omega)]
theorem slc_k {k k' a e : Nat} : slc B (a, k, e) = slc B (a, k', e) := rfl
theorem r_sideR (hC : CS s B t S) {l m : Nat} (hl1 : l ≤ 100) (hm : m ≤ 16) : ∃ s' v, fX12_side (M h s) (h + 308) (i32 (l : Int)) (i32 (m : Int)) = some (v, M h s') ∧ ((qSd B S.1 t l m = 0 ∧ s' = s ∧ v = i64 (r6 (pWd B t) : Int)) ∨ (qSd B S.1 t l m ≠ 0 ∧ v = 0 ∧ s' = flt s (qSd B S.1 t l m) t.1)) := by
  obtain ⟨c1, c2, c3, c4, c5⟩ := id hC
  have hb := c1.1.2.2.2
  have htb := tok_b (t := t) hb
  have hl := c1.1.2.2.1
  have hv1 := c2.1
  have hv2 := c2.2.1
  have hv3 := c2.2.2.1
  have hK := c5.1
  unfold fX12_side fJX12_side_m_23 qSd
  rw [o_308, sb, r_fine c3, sb, if_neg (by decide), g_308_11, sb, c1.2.2.2.1, q1000]
  by_cases k1 : t.2.1 = 1
  · have hbt : ∀ x ∈ slc B t, 97 ≤ x := fun x hx => by
      obtain ⟨j, hj, ej⟩ := mem_getD (d := 0) hx
      rw [slc_len c2] at hj
      rw [slc_get hj] at ej
      have := knd_1 (B := B) (p := t.1 + j) (by rw [c2.2.2.2.2.2.2 (Or.inl k1) _ (by omega) (by omega), k1])
      omega
    have hst : slc B (t.1, 1, t.2.2) = slc B t := rfl
    rw [if_pos (by rw [(tok_1 hb).mpr k1]; rfl), if_pos k1, sb, r_ck1 c3, sb, if_neg n10]
    simp only []
    have e0 : aL (M h s) (h + 313) 0 = some (i64 (S.1 : Int)) := by
      rw [q0, a_313 (by decide) (by decide)]
      exact congrArg some c4.1
    rw [g_308_9, sb, c1.2.1, g_308_10, sb, c1.2.2.1, s32, toL (by omega) (by omega), toL (by omega) (by omega), toL (by omega) (by omega), r_isIn (by omega) (by omega) (by omega), sb]
    by_cases k2 : l ≤ t.2.2 - t.1 ∧ t.2.2 - t.1 ≤ m
    · rw [if_pos (show ((l : Int) ≤ (t.2.2 : Int) - (t.1 : Int) ∧ (t.2.2 : Int) - (t.1 : Int) ≤ (m : Int)) by omega), if_neg n10, sb, sb, g_308_15, sb, e0, sb, o_308, sb, r_areL c1.1.tp hv3 hv2 hK.2 hK.1, sb, hst]
      by_cases k3 : ∀ x ∈ slc B t, 97 ≤ x ∧ x < 97 + S.1
      · unfold fJX12_side_m_77
        have k4 : (l ≤ t.2.2 - t.1 ∧ t.2.2 - t.1 ≤ m) ∧ ∀ x ∈ slc B t, x < 97 + S.1 := ⟨k2, fun x hx => (k3 x hx).2⟩
        have es := r_spell (h := h) c1.1.tp hv3 hv2 (by omega) (fun x hx => by have := k3 x (hst ▸ hx); omega)
        rw [if_pos k3, if_neg n10, if_pos k4, o_308, sb, r_ck1 c3, sb, if_neg n10]
        simp only []
        rw [g_308_10, sb, c1.2.2.1, g_308_9, sb, c1.2.1, o_308, sb, es, sb]
        exact ⟨s, _, rfl, Or.inl ⟨trivial, rfl, rfl⟩⟩
      · unfold fJX12_side_m_76 fJX12_side_m_77
        have k4 : ¬ ((l ≤ t.2.2 - t.1 ∧ t.2.2 - t.1 ≤ m) ∧ ∀ x ∈ slc B t, x < 97 + S.1) := fun h9 => k3 (fun x hx => ⟨hbt x hx, h9.2 x hx⟩)
        rw [if_neg k3, if_pos rfl, if_neg k4, o_308, sb, show (2 : Int32) = i32 ((2 : Nat) : Int) from q2, r_ck0 c3 (by decide) (by decide) c1.2.2.1, sb, if_pos rfl]
        exact ⟨_, _, rfl, Or.inr ⟨by decide, rfl, rfl⟩⟩
    · unfold fJX12_side_m_76 fJX12_side_m_77
      rw [if_neg (show ¬ ((l : Int) ≤ (t.2.2 : Int) - (t.1 : Int) ∧ (t.2.2 : Int) - (t.1 : Int) ≤ (m : Int)) by omega), if_pos rfl, if_neg (fun h9 => k2 h9.1), o_308, sb, show (2 : Int32) = i32 ((2 : Nat) : Int) from q2, r_ck0 c3 (by decide) (by decide) c1.2.2.1, sb, if_pos rfl]
      exact ⟨_, _, rfl, Or.inr ⟨by decide, rfl, rfl⟩⟩
  · have hne : ¬ tok B t = 1000 := fun h9 => k1 ((tok_1 hb).mp h9)
    rw [if_neg (by rw [eq32 (by omega) (by omega) (by omega) (by omega)]; omega), if_neg k1, sb, show (1 : Int32) = i32 ((1 : Nat) : Int) from q1, r_ck0 c3 (by decide) (by decide) c1.2.2.1, sb, if_pos rfl]
    exact ⟨_, _, rfl, Or.inr ⟨by decide, rfl, rfl⟩⟩
theorem r_number (hC : CS s B t S) {m : Nat} (hm : m ≤ 16) : ∃ s' v, fX12_number (M h s) (h + 308) 1 (i32 (m : Int)) = some (v, M h s') ∧ Frd s s' ∧ ((pNf B t m = 0 ∧ CS s' B (nx B t.2.2) S ∧ v = i32 (pNm B t : Int) ∧ 1 ≤ pNm B t ∧ pNm B t ≤ m) ∨ (pNf B t m ≠ 0 ∧ v = 1 ∧ s' = flt s (pNf B t m) t.1)) := by
  obtain ⟨c1, c2, c3, c4, c5⟩ := id hC
  have hb := c1.1.2.2.2
  have htb := tok_b (t := t) hb
  unfold fX12_number fJX12_number_m_23 pNf
  rw [o_308, sb, r_fine c3, sb, if_neg (by decide), g_308_11, sb, c1.2.2.2.1, show (1001 : Int32) = i32 1001 from by decide]
  by_cases k1 : t.2.1 = 2
  · obtain ⟨v, v1, v2, v3⟩ := c1.2.2.2.2 k1
    rw [if_pos (by rw [(tok_2 hb).mpr k1]; rfl), if_pos k1, sb, r_ck1 c3, sb, if_neg n10]
    simp only []
    rw [g_308_12, sb, v1, toL (by omega) (by omega), show (1 : Int32).toInt64 = i64 1 from by decide, toL (by omega) (by omega), r_isIn (by omega) (by omega) (by omega), sb]
    by_cases k2 : 1 ≤ pNm B t ∧ pNm B t ≤ m
    · obtain ⟨s1, e1, f1, C1⟩ := r_nx (h := h) hC
      rw [if_pos (show ((1 : Int) ≤ (v : Int) ∧ (v : Int) ≤ (m : Int)) by omega), if_pos k2, o_308, sb, r_ck1 c3, sb, if_neg n10]
      simp only []
      rw [g_308_12, sb, v1, o_308, sb, e1, sb]
      exact ⟨s1, _, rfl, f1, Or.inl ⟨trivial, C1, by rw [show v = pNm B t by omega], k2⟩⟩
    · rw [if_neg (show ¬ ((1 : Int) ≤ (v : Int) ∧ (v : Int) ≤ (m : Int)) by omega), if_neg k2, o_308, sb, show (2 : Int32) = i32 ((2 : Nat) : Int) from q2, r_ck0 c3 (by decide) (by decide) c1.2.2.1, sb, if_pos rfl]
      exact ⟨_, _, rfl, frd_flt (by decide) (by decide), Or.inr ⟨by decide, rfl, rfl⟩⟩
  · have hne : ¬ tok B t = 1001 := fun h9 => k1 ((tok_2 hb).mp h9)
    have ek := r_ck0 (h := h) c3 (c := 1) (by decide) (by decide) c1.2.2.1
    rw [if_neg (by rw [eq32 (by omega) (by omega) (by omega) (by omega)]; omega), if_neg k1, sb, show fX12_check (M h s) (h + 308) 0 1 = _ from ek, sb, if_pos rfl]
    exact ⟨_, _, rfl, frd_flt (by decide) (by decide), Or.inr ⟨by decide, rfl, rfl⟩⟩
theorem r_numberX (hf : ¬ fin s) {v w : Int32} : fX12_number (M h s) (h + 308) v w = some (v, M h s) := by
  unfold fX12_number
  rw [o_308, sb, r_nfine hf, sb, if_pos rfl]
end RR2
