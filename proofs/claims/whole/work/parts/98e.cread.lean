/-! READING: pieces of a line, pure and in the class -/
def slc (B : List Nat) (t : Tk) : List Nat := (B.drop t.1).take (t.2.2 - t.1)
def pWd (B : List Nat) (t : Tk) : List Nat := (slc B t).map (fun x => x - 97)
abbrev pSg (B : List Nat) (t : Tk) (c : Nat) : Prop := t.2.1 = 3 ∧ bt B t.1 = c
abbrev pRw (B : List Nat) (t : Tk) (w : List Nat) : Prop := t.2.1 = 1 ∧ slc B t = w
def pSd (B : List Nat) (K : Nat) (t : Tk) (m : Nat) : Nat := if t.2.1 = 1 then (if t.2.2 - t.1 ≤ m ∧ ∀ x ∈ slc B t, x < 97 + K then 0 else 2) else 1
def nm1 (a x : Nat) : Nat := min 1000 (10 * a + (x - 48))
def pNm (B : List Nat) (t : Tk) : Nat := (slc B t).foldl nm1 0
def pNf (B : List Nat) (t : Tk) (m : Nat) : Nat := if t.2.1 = 2 then (if 1 ≤ pNm B t ∧ pNm B t ≤ m then 0 else 2) else 1
theorem slc_len {B : List Nat} {t : Tk} (hV : TV B t) : (slc B t).length = t.2.2 - t.1 := by
  unfold slc; rw [List.length_take, List.length_drop]; have := hV.2.1; omega
theorem slc_get {B : List Nat} {t : Tk} {j : Nat} (hj : j < t.2.2 - t.1) : (slc B t).getD j 0 = bt B (t.1 + j) := by
  unfold slc bt
  rw [List.getD_eq_getElem?_getD, List.getD_eq_getElem?_getD, List.getElem?_take, if_pos hj, List.getElem?_drop]
theorem pWd_len {B : List Nat} {t : Tk} (hV : TV B t) : (pWd B t).length = t.2.2 - t.1 := by
  unfold pWd; rw [List.length_map, slc_len hV]
theorem pWd_get {B : List Nat} {t : Tk} {j : Nat} (hV : TV B t) (hj : j < t.2.2 - t.1) : (pWd B t).getD j 0 = bt B (t.1 + j) - 97 := by
  have hl := slc_len hV
  rw [← slc_get hj]
  unfold pWd
  rw [List.getD_eq_getElem?_getD, List.getD_eq_getElem?_getD, List.getElem?_map, List.getElem?_eq_getElem (by omega)]; rfl
theorem pSd_0 {B : List Nat} {K m : Nat} {t : Tk} (hV : TV B t) (h : pSd B K t m = 0) : t.2.1 = 1 ∧ (pWd B t).length ≤ m ∧ (∀ x ∈ pWd B t, x < K) ∧ (pWd B t) ≠ [] := by
  unfold pSd at h
  by_cases c : t.2.1 = 1
  · rw [if_pos c] at h
    by_cases c2 : t.2.2 - t.1 ≤ m ∧ ∀ x ∈ slc B t, x < 97 + K
    · refine ⟨c, by rw [pWd_len hV]; exact c2.1, fun x hx => ?_, fun hz => ?_⟩
      · unfold pWd at hx
        obtain ⟨y, hy, e⟩ := List.mem_map.mp hx
        have h1 := c2.2 y hy
        obtain ⟨j, hj, ej⟩ := mem_getD (d := 0) hy
        rw [slc_len hV] at hj
        rw [slc_get hj] at ej
        have h2 := knd_1 (B := B) (p := t.1 + j) (by rw [hV.2.2.2.2.2.2 (Or.inl c) _ (by omega) (by omega), c])
        omega
      · have := congrArg List.length hz
        rw [pWd_len hV] at this
        have := hV.2.2.2.2.2.1 (by rw [c]; decide)
        simp at *
        omega
    · rw [if_neg c2] at h; exact absurd h (by decide)
  · rw [if_neg c] at h; exact absurd h (by decide)
theorem fold1000 (l : List Nat) : l.foldl nm1 1000 = 1000 := by
  induction l with
  | nil => rfl
  | cons x l ih => rw [List.foldl_cons, show nm1 1000 x = 1000 by unfold nm1; omega]; exact ih
section RD
variable {h : Nat} {s : Mm} {B : List Nat} {t : Tk} {S : Sys}
theorem CT.fr {s' : Mm} (hC : CT s B t) {lo hi : Nat} (hf : Fr lo hi s s') (h1 : 246 < lo) : CT s' B t := by
  unfold CT RT
  rw [hf.I 246 (by omega), hf.I 1 (by omega)]
  exact hC
theorem c_sgn (hC : CT s B t) (hV : TV B t) {c : Nat} (hc : c < 256) : fX7_isSign (M h s) (h + 246) (i32 (c : Int)) = some (if pSg B t c then 1 else 0) := by
  obtain ⟨hT, h3, h4, h5⟩ := hC
  have hl := hT.2.2.1
  have hk := hV.2.2.2.2.1
  have hb := hT.2.2.2 t.1
  unfold fX7_isSign
  rw [g_246_3, sb, h3, q3]
  by_cases c1 : t.2.1 = 3
  · have hlt := hV.2.2.2.2.2.1 (by omega)
    have := hV.2.1
    rw [if_pos (by rw [c1]; rfl), g_246_1, sb, g_246_4, sb, h4, c_byte hT (by omega), sb]
    by_cases c2 : bt B t.1 = c
    · rw [if_pos (by rw [c2]), if_pos ⟨c1, c2⟩]
    · rw [if_neg (by rw [eq32 (by omega) (by omega) (by omega) (by omega)]; omega), if_neg (fun h9 => c2 h9.2)]
  · rw [if_neg (by rw [eq32 (by omega) (by omega) (by omega) (by omega)]; omega), if_neg (fun h9 => c1 h9.1)]
/-- a word that is told as a constant -/
def Cst (i : Nat) (w : List Nat) : Prop := slen i = some (i32 (w.length : Int)) ∧ (∀ j, j < w.length → sch i (i32 (j : Int)) = some (i32 ((w.getD j 0 : Nat) : Int))) ∧ w.length ≤ 40 ∧ ∀ j, w.getD j 0 < 256
theorem slc_eq {w : List Nat} (hV : TV B t) (hl : w.length = t.2.2 - t.1) : slc B t = w ↔ ∀ j, j < w.length → bt B (t.1 + j) = w.getD j 0 := by
  constructor
  · intro h9 j hj
    rw [← h9, slc_get (by omega)]
  · intro h9
    refine ext_getD (by rw [slc_len hV, hl]) (fun j hj => ?_)
    rw [slc_len hV] at hj
    rw [slc_get hj]; exact h9 j (by omega)
theorem c_rowIs (hC : CT s B t) (hV : TV B t) {i : Nat} {w : List Nat} (hw : Cst i w) : fX7_isRow (M h s) (h + 246) i = some (if pRw B t w then 1 else 0) := by
  obtain ⟨hT, h3, h4, h5⟩ := hC
  obtain ⟨w1, w2, w3, w4⟩ := hw
  have hl := hT.2.2.1
  have hk := hV.2.2.2.2.1
  have hv1 := hV.1
  have hv2 := hV.2.1
  have hv3 := hV.2.2.1
  unfold fX7_isRow
  rw [g_246_3, sb, h3, q1]
  by_cases c1 : t.2.1 = 1
  · rw [if_pos (by rw [c1]; rfl), g_246_5, sb, h5, g_246_4, sb, h4, w1, sb, s32]
    by_cases c2 : w.length = t.2.2 - t.1
    · rw [if_pos (by rw [eq32 (by omega) (by omega) (by omega) (by omega)]; omega), loop_find (fun j => decide (¬ bt B (t.1 + j) = w.getD j 0)) (fun j => i32 (j : Int)) (.inr ()) (fun _ => .inl ()) w.length ?_ ?_ (show (0 : Int32) = _ from rfl), sb]
      · cases ef : (List.range w.length).find? (fun j => decide (¬ bt B (t.1 + j) = w.getD j 0)) with
        | none =>
          have h9 := find_none ef
          rw [if_pos ⟨c1, (slc_eq hV c2).mpr (fun j hj => by
            have := h9 j hj
            rw [decide_eq_false_iff_not] at this
            exact Classical.not_not.mp this)⟩]
        | some j =>
          obtain ⟨j1, j2, -⟩ := find_some ef
          rw [if_neg (fun h9 => of_decide_eq_true j2 ((slc_eq hV c2).mp h9.2 j j1))]
      · intro j hj
        have x1 := hT.2.2.2 (t.1 + j)
        have x2 := w4 j
        unfold fLX7_isRow_28
        rw [w1, sb, if_neg (by rw [le32 (by omega) (by omega) (by omega) (by omega)]; omega), g_246_1, sb, g_246_4, sb, h4, a32, show i32 ((t.1 : Int) + (j : Int)) = i32 (((t.1 + j : Nat)) : Int) from rfl, c_byte hT (by omega), sb, w2 j hj, sb]
        by_cases c3 : bt B (t.1 + j) = w.getD j 0
        · rw [if_pos (by rw [c3]), if_neg (by rw [decide_eq_true_eq]; exact fun hn => hn c3), xlet_eq, q1, a32]; rfl
        · rw [if_neg (by rw [eq32 (by omega) (by omega) (by omega) (by omega)]; omega), if_pos (decide_eq_true c3)]
      · unfold fLX7_isRow_28
        rw [w1, sb, if_pos (by rw [le32 (by omega) (by omega) (by omega) (by omega)]; omega)]
    · rw [if_neg (by rw [eq32 (by omega) (by omega) (by omega) (by omega)]; omega), if_neg (fun h9 => c2 (by rw [← h9.2, slc_len hV]))]
  · rw [if_neg (by rw [eq32 (by omega) (by omega) (by omega) (by omega)]; omega), if_neg (fun h9 => c1 h9.1)]
theorem c_num (hC : CT s B t) (hV : TV B t) (hk : t.2.1 = 2) : ∃ v : Nat, fX7_number (M h s) (h + 246) = some (i32 (v : Int)) ∧ min 1000 v = pNm B t ∧ v ≤ 10000 := by
  obtain ⟨hT, h3, h4, h5⟩ := hC
  have hl := hT.2.2.1
  have hv1 := hV.1
  have hv2 := hV.2.1
  have hv3 := hV.2.2.1
  have key : ∀ (d k v : Nat), t.1 + k + d = t.2.2 → v ≤ 10000 → ∃ v' : Nat, iterP (fLX7_number_7 (M h s) (h + 246)) (i32 (v : Int), i32 ((t.1 + k : Nat) : Int)) = some (i32 (v' : Int)) ∧ min 1000 v' = ((slc B t).drop k).foldl nm1 (min 1000 v) ∧ v' ≤ 10000 := by
    intro d
    induction d with
    | zero =>
      intro k v hd hv
      refine ⟨v, ?_, ?_, hv⟩
      · rw [iterP_eq]
        unfold fLX7_number_7
        simp only []
        rw [g_246_5, sb, h5, if_pos (by rw [le32 (by omega) (by omega) (by omega) (by omega)]; omega)]; rfl
      · rw [List.drop_of_length_le (by rw [slc_len hV]; omega)]; rfl
    | succ d ih =>
      intro k v hd hv
      by_cases c : 1000 ≤ v
      · refine ⟨v, ?_, ?_, hv⟩
        · rw [iterP_eq]
          unfold fLX7_number_7
          simp only []
          rw [g_246_5, sb, h5, if_neg (by rw [le32 (by omega) (by omega) (by omega) (by omega)]; omega), q1000, if_pos (by rw [le32 (by omega) (by omega) (by omega) (by omega)]; omega)]; rfl
        · rw [show min 1000 v = 1000 by omega, fold1000]
      · have x1 := knd_2 (B := B) (p := t.1 + k) (by rw [hV.2.2.2.2.2.2 (Or.inr hk) _ (by omega) (by omega), hk])
        obtain ⟨v', e1, e2, e3⟩ := ih (k + 1) (10 * v + (bt B (t.1 + k) - 48)) (by omega) (by omega)
        refine ⟨v', ?_, ?_, e3⟩
        · rw [← e1]
          refine iter_inl ?_
          unfold fLX7_number_7
          simp only []
          rw [g_246_5, sb, h5, if_neg (by rw [le32 (by omega) (by omega) (by omega) (by omega)]; omega), q1000, if_neg (by rw [le32 (by omega) (by omega) (by omega) (by omega)]; omega), g_246_1, sb, c_byte hT (by omega), sb, xlet_eq, xlet_eq, q10, m32, a32, q48, s32, q1, a32]
          refine congrArg (fun z => some (Sum.inl z)) (Prod.ext ?_ ?_)
          · show i32 _ = i32 _
            congr 1; omega
          · show i32 _ = i32 _
            congr 1
        · rw [e2, List.drop_eq_getElem_cons (show k < (slc B t).length by rw [slc_len hV]; omega), List.foldl_cons]
          congr 1
          have hg : (slc B t)[k]'(by rw [slc_len hV]; omega) = bt B (t.1 + k) := by
            rw [← slc_get (B := B) (t := t) (j := k) (by omega), List.getD_eq_getElem?_getD, List.getElem?_eq_getElem (by rw [slc_len hV]; omega)]; rfl
          rw [hg]
          unfold nm1
          omega
  obtain ⟨v', e1, e2, e3⟩ := key (t.2.2 - t.1) 0 0 (by omega) (by omega)
  refine ⟨v', ?_, ?_, e3⟩
  · unfold fX7_number
    rw [g_246_4, sb, h4]
    have e1 : iterP (fLX7_number_7 (M h s) (h + 246)) (0, i32 (t.1 : Int)) = some (i32 (v' : Int)) := e1
    rw [e1, sb]
  · rw [e2, List.drop_zero]; rfl
theorem c_numF (hC : CT s B t) (hV : TV B t) {m : Nat} (hm : m < 1000) : fX7_numberFault (M h s) (h + 246) (i32 (m : Int)) = some (i32 (pNf B t m : Int)) := by
  obtain ⟨hT, h3, h4, h5⟩ := id hC
  have hk := hV.2.2.2.2.1
  unfold fX7_numberFault pNf
  rw [g_246_3, sb, h3, q2]
  by_cases c1 : t.2.1 = 2
  · obtain ⟨v, e1, e2, e3⟩ := c_num (h := h) hC hV c1
    rw [if_pos (by rw [c1]; rfl), o_246, sb, e1, sb, if_pos c1, q1]
    by_cases c2 : v < 1
    · rw [if_pos (by rw [lt32 (by omega) (by omega) (by omega) (by omega)]; omega), if_neg (by omega)]; rfl
    · rw [if_neg (by rw [lt32 (by omega) (by omega) (by omega) (by omega)]; omega)]
      by_cases c3 : v ≤ m
      · rw [if_pos (by rw [le32 (by omega) (by omega) (by omega) (by omega)]; omega), if_pos (by omega)]; rfl
      · rw [if_neg (by rw [le32 (by omega) (by omega) (by omega) (by omega)]; omega), if_neg (by omega)]; rfl
  · rw [if_neg (by rw [eq32 (by omega) (by omega) (by omega) (by omega)]; omega), if_neg c1]; rfl
theorem c_numV (hC : CT s B t) (hV : TV B t) {m : Nat} (hm : m < 1000) (h0 : pNf B t m = 0) : fX7_number (M h s) (h + 246) = some (i32 (pNm B t : Int)) ∧ 1 ≤ pNm B t ∧ pNm B t ≤ m := by
  unfold pNf at h0
  by_cases c1 : t.2.1 = 2
  · rw [if_pos c1] at h0
    by_cases c2 : 1 ≤ pNm B t ∧ pNm B t ≤ m
    · obtain ⟨v, e1, e2, e3⟩ := c_num (h := h) hC hV c1
      exact ⟨by rw [e1, show v = pNm B t by omega], c2⟩
    · rw [if_neg c2] at h0; exact absurd h0 (by decide)
  · rw [if_neg c1] at h0; exact absurd h0 (by decide)
theorem c_sideF (hC : CT s B t) (hV : TV B t) (hS : WfS S) (hR : RS s 247 S) {m : Nat} (hm : m < 1000) : fX7_sideFault (M h s) (h + 246) (i32 (m : Int)) = some (i32 (pSd B S.1 t m : Int)) := by
  obtain ⟨hT, h3, h4, h5⟩ := hC
  have hl := hT.2.2.1
  have hk := hV.2.2.2.2.1
  have hv1 := hV.1
  have hv2 := hV.2.1
  have hv3 := hV.2.2.1
  have hK := hS.1.2
  unfold fX7_sideFault pSd
  rw [g_246_3, sb, h3, q1]
  by_cases c1 : t.2.1 = 1
  · rw [if_pos (by rw [c1]; rfl), g_246_5, sb, h5, g_246_4, sb, h4, s32, if_pos c1]
    by_cases c2 : t.2.2 - t.1 ≤ m
    · rw [if_pos (by rw [le32 (by omega) (by omega) (by omega) (by omega)]; omega), sb, loop_find (fun j => decide (¬ bt B (t.1 + j) < 97 + S.1)) (fun j => i32 ((t.1 + j : Nat) : Int)) (.inr ()) (fun _ => .inl ()) (t.2.2 - t.1) ?_ ?_ (show i32 (t.1 : Int) = _ from rfl), sb]
      · cases ef : (List.range (t.2.2 - t.1)).find? (fun j => decide (¬ bt B (t.1 + j) < 97 + S.1)) with
        | none =>
          have h9 := find_none ef
          have hall : ∀ x ∈ slc B t, x < 97 + S.1 := fun x hx => by
            obtain ⟨j, hj, e⟩ := mem_getD (d := 0) hx
            rw [slc_len hV] at hj
            rw [slc_get hj] at e
            have := h9 j hj
            rw [decide_eq_false_iff_not] at this
            omega
          rw [if_pos ⟨c2, hall⟩]; rfl
        | some j =>
          obtain ⟨j1, j2, -⟩ := find_some ef
          have hno : ¬ (t.2.2 - t.1 ≤ m ∧ ∀ x ∈ slc B t, x < 97 + S.1) := fun h9 => of_decide_eq_true j2 (by
            have := h9.2 ((slc B t).getD j 0) (getD_mem (by rw [slc_len hV]; exact j1))
            rw [slc_get j1] at this
            exact this)
          rw [if_neg hno]; rfl
      · intro j hj
        have x1 := hT.2.2.2 (t.1 + j)
        unfold fLX7_sideFault_30
        rw [g_246_5, sb, h5, if_neg (by rw [le32 (by omega) (by omega) (by omega) (by omega)]; omega), g_246_1, sb, c_byte hT (by omega), sb, g_246_0, sb, g_247_0, sb, hR.1, q97, s32]
        by_cases c3 : bt B (t.1 + j) < 97 + S.1
        · rw [if_pos (by rw [lt32 (by omega) (by omega) (by omega) (by omega)]; omega), if_neg (by rw [decide_eq_true_eq]; exact fun hn => hn c3), xlet_eq, q1, a32]; rfl
        · rw [if_neg (by rw [lt32 (by omega) (by omega) (by omega) (by omega)]; omega), if_pos (decide_eq_true c3)]
      · unfold fLX7_sideFault_30
        rw [g_246_5, sb, h5, if_pos (by rw [le32 (by omega) (by omega) (by omega) (by omega)]; omega)]
    · rw [if_neg (by rw [le32 (by omega) (by omega) (by omega) (by omega)]; omega), if_neg (fun h9 => c2 h9.1)]; rfl
  · rw [if_neg (by rw [eq32 (by omega) (by omega) (by omega) (by omega)]; omega), if_neg c1]; rfl
theorem c_sideW (hC : CT s B t) (hV : TV B t) {K m : Nat} (hK : K ≤ 5) (hm : m ≤ 16) (h0 : pSd B K t m = 0) : fX7_sideWord (M h s) (h + 246) = some (i64 (cw (pWd B t) : Int)) := by
  obtain ⟨hT, h3, h4, h5⟩ := hC
  have hl := hT.2.2.1
  have hv1 := hV.1
  have hv2 := hV.2.1
  have hv3 := hV.2.2.1
  obtain ⟨p1, p2, p3, -⟩ := pSd_0 hV h0
  have pl := pWd_len hV
  have hWw : ∀ k, Ww ((pWd B t).take k) := fun k => ⟨by rw [List.length_take]; omega, fun x hx => by have := p3 x (List.mem_of_mem_take hx); omega⟩
  unfold fX7_sideWord
  rw [g_246_4, sb, h4, iter_to (t.2.2 - t.1) (fun k => (i64 (cw ((pWd B t).take k) : Int), i32 ((t.1 + k : Nat) : Int))) (by rw [List.take_zero, cw_nil]; rfl) ?_ ?_ (b := i64 (cw (pWd B t) : Int)), sb]
  · intro k hk
    have hx : (pWd B t).getD k 0 < 5 := by have := p3 _ (getD_mem (d := 0) (show k < (pWd B t).length by omega)); omega
    have hg := pWd_get hV hk
    have hn := knd_1 (B := B) (p := t.1 + k) (by rw [hV.2.2.2.2.2.2 (Or.inl p1) _ (by omega) (by omega), p1])
    have et : (pWd B t).take (k + 1) = (pWd B t).take k ++ [(pWd B t).getD k 0] := by
      rw [List.take_succ_eq_append_getElem (by omega), List.getD_eq_getElem?_getD, List.getElem?_eq_getElem (by omega)]; rfl
    unfold fLX7_sideWord_7
    simp only []
    rw [g_246_5, sb, h5, if_neg (by rw [le32 (by omega) (by omega) (by omega) (by omega)]; omega), g_246_1, sb, c_byte hT (by omega), sb, q97, s32, show i32 ((bt B (t.1 + k) : Int) - 97) = i32 (((pWd B t).getD k 0 : Nat) : Int) by rw [hg]; congr 1; omega, c_longer (hWw k) hx (by rw [List.length_take]; omega), sb, xlet_eq, q1, a32, et]; rfl
  · unfold fLX7_sideWord_7
    simp only []
    rw [g_246_5, sb, h5, if_pos (by rw [le32 (by omega) (by omega) (by omega) (by omega)]; omega), List.take_of_length_le (by omega)]
end RD
