/-! READING: lines, pure and in the class -/
def rkW (w : List Nat) (x : Nat) : Nat := match (List.range w.length).find? (fun k => decide (w.getD k 0 = x)) with
  | some k => k
  | none => 0
abbrev eaW (K : Nat) (w : List Nat) : Prop := w.length = K ∧ zbt w = 2 ^ K - 1
def setO (S : Sys) (w : List Nat) : Sys := (S.1, S.2.1, S.2.2.1, rkW w)
def setW (S : Sys) (x v : Nat) : Sys := (S.1, S.2.1, (fun y => if y = x then v else S.2.2.1 y), S.2.2.2)
def sys0 (K : Nat) : Sys := (K, [], fun _ => 1, fun x => x)
abbrev PR : Type := Nat × Tk × Sys
def pOrd (B : List Nat) (t : Tk) (S : Sys) : PR := if pSd B S.1 (nx B t.2.2) S.1 = 0 then (if eaW S.1 (pWd B (nx B t.2.2)) then (0, nx B (nx B t.2.2).2.2, setO S (pWd B (nx B t.2.2))) else (2, nx B t.2.2, S)) else (pSd B S.1 (nx B t.2.2) S.1, nx B t.2.2, S)
def pWei (B : List Nat) (t : Tk) (S : Sys) : PR := if pSd B S.1 (nx B t.2.2) 1 = 0 then (if pNf B (nx B (nx B t.2.2).2.2) 9 = 0 then (0, nx B (nx B (nx B t.2.2).2.2).2.2, setW S ((pWd B (nx B t.2.2)).getD 0 0) (pNm B (nx B (nx B t.2.2).2.2))) else (pNf B (nx B (nx B t.2.2).2.2) 9, nx B (nx B t.2.2).2.2, S)) else (pSd B S.1 (nx B t.2.2) 1, nx B t.2.2, S)
def pRgt (B : List Nat) (t : Tk) (S : Sys) (l : List Nat) : PR := if pSg B (nx B t.2.2) 59 then (0, nx B t.2.2, addRule S l []) else if pSd B S.1 (nx B t.2.2) 4 = 0 then (if pWd B (nx B t.2.2) = l then (4, nx B t.2.2, S) else (0, nx B (nx B t.2.2).2.2, addRule S l (pWd B (nx B t.2.2)))) else (pSd B S.1 (nx B t.2.2) 4, nx B t.2.2, S)
def pRul (B : List Nat) (t : Tk) (S : Sys) : PR := if 6 ≤ nr S then (3, t, S) else if pSd B S.1 (nx B t.2.2) 4 = 0 then (if pSg B (nx B (nx B t.2.2).2.2) 62 then pRgt B (nx B (nx B t.2.2).2.2) S (pWd B (nx B t.2.2)) else (1, nx B (nx B t.2.2).2.2, S)) else (pSd B S.1 (nx B t.2.2) 4, nx B t.2.2, S)
def wRul : List Nat := [114, 117, 108, 101]
def wWei : List Nat := [119, 101, 105, 103, 104]
def wOrd : List Nat := [111, 114, 100, 101, 114]
def wLet : List Nat := [108, 101, 116, 116, 101, 114, 115]
def pLin (B : List Nat) (t : Tk) (S : Sys) : PR := if pRw B t wRul then pRul B t S else if pRw B t wWei then pWei B t S else if pRw B t wOrd then pOrd B t S else (1, t, S)
def pTxt (B : List Nat) : Nat → Tk → Sys → PR
  | 0, t, S => (9, t, S)
  | n + 1, t, S => if pSg B t 59 then (if (nx B t.2.2).2.1 = 0 then (0, nx B t.2.2, S) else if (pLin B (nx B t.2.2) S).1 = 0 then pTxt B n (pLin B (nx B t.2.2) S).2.1 (pLin B (nx B t.2.2) S).2.2 else pLin B (nx B t.2.2) S) else (1, t, S)
def pAll (B : List Nat) : PR := if pRw B (nx B 0) wLet then (if pNf B (nx B (nx B 0).2.2) 5 = 0 then pTxt B 301 (nx B (nx B (nx B 0).2.2).2.2) (sys0 (pNm B (nx B (nx B 0).2.2))) else (pNf B (nx B (nx B 0).2.2) 5, nx B (nx B 0).2.2, sys0 1)) else (1, nx B 0, sys0 1)
theorem cst12 : Cst 12 wLet := ⟨by decide +kernel, by decide +kernel, by decide, fun j => by
  by_cases c : j < 7
  · exact (by decide : ∀ j, j < 7 → wLet.getD j 0 < 256) j c
  · rw [List.getD_eq_getElem?_getD, List.getElem?_eq_none (by show 7 ≤ j; omega)]; decide⟩
theorem cst13 : Cst 13 wRul := ⟨by decide +kernel, by decide +kernel, by decide, fun j => by
  by_cases c : j < 4
  · exact (by decide : ∀ j, j < 4 → wRul.getD j 0 < 256) j c
  · rw [List.getD_eq_getElem?_getD, List.getElem?_eq_none (by show 4 ≤ j; omega)]; decide⟩
theorem cst14 : Cst 14 wWei := ⟨by decide +kernel, by decide +kernel, by decide, fun j => by
  by_cases c : j < 5
  · exact (by decide : ∀ j, j < 5 → wWei.getD j 0 < 256) j c
  · rw [List.getD_eq_getElem?_getD, List.getElem?_eq_none (by show 5 ≤ j; omega)]; decide⟩
theorem cst15 : Cst 15 wOrd := ⟨by decide +kernel, by decide +kernel, by decide, fun j => by
  by_cases c : j < 5
  · exact (by decide : ∀ j, j < 5 → wOrd.getD j 0 < 256) j c
  · rw [List.getD_eq_getElem?_getD, List.getElem?_eq_none (by show 5 ≤ j; omega)]; decide⟩
/-! each letter once -/
def pcn (v : Nat) : Nat := v % 2 + v / 2 % 2 + v / 4 % 2 + v / 8 % 2 + v / 16 % 2
theorem bitc : ∀ v : Nat, v < 32 → fJ6_bitCount_0f7a4 (i32 (v : Int)) = some (i32 (pcn v : Int)) := by decide +kernel
theorem pc_full : ∀ K : Nat, K < 6 → ∀ v : Nat, v < 32 → v < 2 ^ K → (pcn v = K ↔ v = 2 ^ K - 1) := by decide +kernel
theorem ea_mem {K : Nat} {w : List Nat} (h : eaW K w) {x : Nat} (hx : x < K) : x ∈ w := by
  have h1 := zbt_bit w x
  rw [h.2, Nat.testBit_two_pow_sub_one, decide_eq_true hx] at h1
  exact of_decide_eq_true h1.symm
theorem rkW_mem {w : List Nat} {x : Nat} (hx : x ∈ w) : rkW w x < w.length ∧ w.getD (rkW w x) 0 = x ∧ ∀ j, j < rkW w x → w.getD j 0 ≠ x := by
  unfold rkW
  cases e : (List.range w.length).find? (fun k => decide (w.getD k 0 = x)) with
  | none =>
    obtain ⟨j, hj, ej⟩ := mem_getD (d := 0) hx
    have := find_none e j hj
    rw [decide_eq_false_iff_not] at this
    exact absurd ej this
  | some k =>
    obtain ⟨h1, h2, h3⟩ := find_some e
    refine ⟨h1, of_decide_eq_true h2, fun j hj => ?_⟩
    have := h3 j hj
    rw [decide_eq_false_iff_not] at this
    exact this
theorem ea_inj {K : Nat} {w : List Nat} (h : eaW K w) {i j : Nat} (hi : i < K) (hj : j < K) (he : w.getD i 0 = w.getD j 0) : i = j := by
  have key : ∀ i j, i < j → j < K → w.getD i 0 = w.getD j 0 → False := by
    intro i j hij hj he
    have hne : ∀ x, x < K → rkW w x ≠ j := fun x hx e => by
      obtain ⟨-, r2, r3⟩ := rkW_mem (ea_mem h hx)
      rw [e] at r2 r3
      exact r3 i hij (he.trans r2)
    have := pigeon (K - 1) K (fun x => if rkW w x < j then rkW w x else rkW w x - 1) (fun x hx => by
      have h1 := (rkW_mem (ea_mem h hx)).1
      have h2 := hne x hx
      have h3 := h.1
      show (if rkW w x < j then rkW w x else rkW w x - 1) < K - 1
      split <;> omega) (fun x y hx hy e => by
      have e : (if rkW w x < j then rkW w x else rkW w x - 1) = (if rkW w y < j then rkW w y else rkW w y - 1) := e
      have h2 := hne x hx
      have h3 := hne y hy
      have : rkW w x = rkW w y := by
        split at e <;> split at e <;> omega
      have a1 := (rkW_mem (ea_mem h hx)).2.1
      have a2 := (rkW_mem (ea_mem h hy)).2.1
      rw [this] at a1
      exact a1.symm.trans a2)
    omega
  rcases Nat.lt_trichotomy i j with c | c | c
  · exact absurd (key i j c hj he) id
  · exact c
  · exact absurd (key j i c hi he.symm) id
theorem rkW_at {K : Nat} {w : List Nat} (h : eaW K w) {k : Nat} (hk : k < K) : rkW w (w.getD k 0) = k := by
  have hm : w.getD k 0 ∈ w := getD_mem (by rw [h.1]; exact hk)
  obtain ⟨r1, r2, -⟩ := rkW_mem hm
  exact ea_inj h (by rw [← h.1]; exact r1) hk r2
theorem setO_wf {S : Sys} (hS : WfS S) {w : List Nat} (h : eaW S.1 w) : WfS (setO S w) := by
  obtain ⟨a, b, c, d, e, f⟩ := hS
  refine ⟨a, b, c, d, fun x hx => ?_, fun x y hx hy he => ?_⟩
  · have := (rkW_mem (ea_mem h hx)).1
    rw [h.1] at this
    exact this
  · have a1 := (rkW_mem (ea_mem h hx)).2.1
    have a2 := (rkW_mem (ea_mem h hy)).2.1
    have he : rkW w x = rkW w y := he
    rw [he] at a1
    exact a1.symm.trans a2
theorem setW_wf {S : Sys} (hS : WfS S) {x v : Nat} (h1 : 1 ≤ v) (h2 : v ≤ 9) : WfS (setW S x v) := by
  obtain ⟨a, b, c, d, e, f⟩ := hS
  refine ⟨a, b, c, fun y hy => ?_, e, f⟩
  show 1 ≤ (if y = x then v else S.2.2.1 y) ∧ (if y = x then v else S.2.2.1 y) ≤ 9
  split
  · exact ⟨h1, h2⟩
  · exact d y hy
theorem sys0_wf {K : Nat} (h1 : 1 ≤ K) (h2 : K ≤ 5) : WfS (sys0 K) := ⟨⟨h1, h2⟩, by show 0 ≤ 12; omega, fun r hr => absurd hr (by show ¬ r < 0; omega), fun x _ => by show 1 ≤ 1 ∧ 1 ≤ 9; decide, fun x hx => hx, fun x y _ _ e => e⟩
/-- a line, or a fault -/
def PG (B : List Nat) (t : Tk) (r : PR) : Prop := TV B r.2.1 ∧ r.1 ≤ 4 ∧ (r.1 = 0 → t.2.2 ≤ r.2.1.1 ∧ WfS r.2.2 ∧ nr r.2.2 ≤ 6)
section RD
variable {h : Nat} {s : Mm} {B : List Nat} {t : Tk} {S : Sys}
theorem pSd_le {K m : Nat} : pSd B K t m ≤ 2 := by
  unfold pSd
  split
  · split <;> omega
  · omega
theorem pNf_le {m : Nat} : pNf B t m ≤ 2 := by
  unfold pNf
  split
  · split <;> omega
  · omega
theorem wk_of {K m : Nat} (hK : m ≤ 16) (hV : TV B t) (h0 : pSd B K t m = 0) : Wk K (pWd B t) := by
  obtain ⟨-, p2, p3, -⟩ := pSd_0 hV h0
  exact ⟨by omega, p3⟩
theorem pOrd_g (hV : TV B t) (hS : WfS S) (h6 : nr S ≤ 6) : PG B t (pOrd B t S) := by
  obtain ⟨v1, w1⟩ := nx_tv hV.2.1
  obtain ⟨v2, w2⟩ := nx_tv v1.2.1
  have l1 := pSd_le (B := B) (t := nx B t.2.2) (K := S.1) (m := S.1)
  have := v1.2.2.1
  unfold pOrd
  split
  · split
    · rename_i c1 c2
      exact ⟨v2, by simp, fun _ => ⟨by show t.2.2 ≤ (nx B (nx B t.2.2).2.2).1; omega, setO_wf hS c2, h6⟩⟩
    · exact ⟨v1, by simp, fun h9 => absurd h9 (by simp)⟩
  · rename_i c1
    exact ⟨v1, by show pSd B S.1 (nx B t.2.2) S.1 ≤ 4; omega, fun h9 => absurd h9 c1⟩
theorem pWei_g (hV : TV B t) (hS : WfS S) (h6 : nr S ≤ 6) : PG B t (pWei B t S) := by
  obtain ⟨v1, w1⟩ := nx_tv hV.2.1
  obtain ⟨v2, w2⟩ := nx_tv v1.2.1
  obtain ⟨v3, w3⟩ := nx_tv v2.2.1
  have l1 := pSd_le (B := B) (t := nx B t.2.2) (K := S.1) (m := 1)
  have l2 := pNf_le (B := B) (t := nx B (nx B t.2.2).2.2) (m := 9)
  have := v1.2.2.1
  have := v2.2.2.1
  unfold pWei
  split
  · split
    · rename_i c1 c2
      refine ⟨v3, by simp, fun _ => ⟨by show t.2.2 ≤ (nx B (nx B (nx B t.2.2).2.2).2.2).1; omega, ?_, h6⟩⟩
      have c3 : 1 ≤ pNm B (nx B (nx B t.2.2).2.2) ∧ pNm B (nx B (nx B t.2.2).2.2) ≤ 9 := by
        unfold pNf at c2
        split at c2
        · split at c2
          · assumption
          · exact absurd c2 (by decide)
        · exact absurd c2 (by decide)
      exact setW_wf hS c3.1 c3.2
    · rename_i c1 c2
      exact ⟨v2, by show pNf B (nx B (nx B t.2.2).2.2) 9 ≤ 4; omega, fun h9 => absurd h9 c2⟩
  · rename_i c1
    exact ⟨v1, by show pSd B S.1 (nx B t.2.2) 1 ≤ 4; omega, fun h9 => absurd h9 c1⟩
theorem pRgt_g (hV : TV B t) (hS : WfS S) (h6 : nr S < 6) {l : List Nat} (hl : Wk S.1 l) (hne : l ≠ []) : PG B t (pRgt B t S l) := by
  obtain ⟨v1, w1⟩ := nx_tv hV.2.1
  obtain ⟨v2, w2⟩ := nx_tv v1.2.1
  have l1 := pSd_le (B := B) (t := nx B t.2.2) (K := S.1) (m := 4)
  have := v1.2.2.1
  unfold pRgt
  split
  · exact ⟨v1, by simp, fun _ => ⟨w1, addRule_wf hS (by omega) hl ⟨by simp, fun x hx => by cases hx⟩ hne, by show nr (addRule S l []) ≤ 6; rw [addRule_nr]; omega⟩⟩
  · split
    · rename_i c1 c2
      split
      · exact ⟨v1, by simp, fun h9 => absurd h9 (by simp)⟩
      · refine ⟨v2, by simp, fun _ => ⟨by show t.2.2 ≤ (nx B (nx B t.2.2).2.2).1; omega, addRule_wf hS (by omega) hl (wk_of (by decide) v1 c2) hne, by show nr (addRule S l _) ≤ 6; rw [addRule_nr]; omega⟩⟩
    · rename_i c1 c2
      exact ⟨v1, by show pSd B S.1 (nx B t.2.2) 4 ≤ 4; omega, fun h9 => absurd h9 c2⟩
theorem pRul_g (hV : TV B t) (hS : WfS S) (h6 : nr S ≤ 6) : PG B t (pRul B t S) := by
  obtain ⟨v1, w1⟩ := nx_tv hV.2.1
  obtain ⟨v2, w2⟩ := nx_tv v1.2.1
  have l1 := pSd_le (B := B) (t := nx B t.2.2) (K := S.1) (m := 4)
  have := v1.2.2.1
  have := v2.2.2.1
  unfold pRul
  split
  · exact ⟨hV, by simp, fun h9 => absurd h9 (by simp)⟩
  · split
    · rename_i c1 c2
      split
      · obtain ⟨g1, g2, g3⟩ := pRgt_g v2 hS (by omega) (wk_of (by decide) v1 c2) (pSd_0 v1 c2).2.2.2
        exact ⟨g1, g2, fun h9 => ⟨by have := (g3 h9).1; omega, (g3 h9).2⟩⟩
      · exact ⟨v2, by simp, fun h9 => absurd h9 (by simp)⟩
    · rename_i c1 c2
      exact ⟨v1, by show pSd B S.1 (nx B t.2.2) 4 ≤ 4; omega, fun h9 => absurd h9 c2⟩
theorem pLin_g (hV : TV B t) (hS : WfS S) (h6 : nr S ≤ 6) : PG B t (pLin B t S) := by
  unfold pLin
  split
  · exact pRul_g hV hS h6
  · split
    · exact pWei_g hV hS h6
    · split
      · exact pOrd_g hV hS h6
      · exact ⟨hV, by simp, fun h9 => absurd h9 (by simp)⟩
theorem c_each (hC : CT s B t) (hV : TV B t) (hS : WfS S) (hR : RS s 247 S) (h0 : pSd B S.1 t S.1 = 0) : fX7_hasEachOnce (M h s) (h + 246) = some (if eaW S.1 (pWd B t) then 1 else 0) := by
  obtain ⟨hT, h3, h4, h5⟩ := hC
  have hl := hT.2.2.1
  have hv1 := hV.1
  have hv2 := hV.2.1
  have hv3 := hV.2.2.1
  have hK := hS.1.2
  obtain ⟨p1, p2, p3, -⟩ := pSd_0 hV h0
  have pl := pWd_len hV
  unfold fX7_hasEachOnce
  have hzb : zbt (pWd B t) < 2 ^ S.1 := by
    have key : ∀ (l : List Nat) (a : Nat), a < 2 ^ S.1 → (∀ m ∈ l, m < S.1) → l.foldl (fun a m => a ||| 2 ^ m) a < 2 ^ S.1 := by
      intro l
      induction l with
      | nil => intro a ha _; exact ha
      | cons x l ih =>
        intro a ha hx
        rw [List.foldl_cons]
        exact ih _ (Nat.or_lt_two_pow ha (Nat.pow_lt_pow_right (by decide) (hx x (by simp)))) (fun m hm => hx m (by simp [hm]))
    exact key _ 0 (Nat.pow_pos (by decide)) p3
  have h32 : zbt (pWd B t) < 32 := Nat.lt_of_lt_of_le hzb (Nat.pow_le_pow_right (by decide) hK)
  rw [g_246_4, sb, h4, iter_to (t.2.2 - t.1) (fun k => (i32 (zbt ((pWd B t).take k) : Int), i32 ((t.1 + k : Nat) : Int))) (by rw [List.take_zero]; rfl) ?_ ?_ (b := i32 (zbt (pWd B t) : Int)), sb, g_246_5, sb, h5, sb, g_246_0, sb, g_247_0, sb, hR.1, s32]
  · by_cases c : (pWd B t).length = S.1
    · rw [if_pos (by rw [eq32 (by omega) (by omega) (by omega) (by omega)]; omega), bitc _ h32, sb, sb, g_247_0, sb, hR.1]
      have hpc := pc_full S.1 (by omega) _ h32 hzb
      have hpb : pcn (zbt (pWd B t)) ≤ 5 := by unfold pcn; omega
      by_cases c2 : pcn (zbt (pWd B t)) = S.1
      · rw [if_pos (by rw [c2]), if_pos ⟨c, hpc.mp c2⟩]
      · rw [if_neg (by rw [eq32 (by omega) (by omega) (by omega) (by omega)]; omega), if_neg (fun h9 => c2 (hpc.mpr h9.2))]
    · rw [if_neg (by rw [eq32 (by omega) (by omega) (by omega) (by omega)]; omega), if_neg (fun h9 => c h9.1)]
  · intro k hk
    have hx : (pWd B t).getD k 0 < 5 := by have := p3 _ (getD_mem (d := 0) (show k < (pWd B t).length by omega)); omega
    have hg := pWd_get hV hk
    have hn := knd_1 (B := B) (p := t.1 + k) (by rw [hV.2.2.2.2.2.2 (Or.inl p1) _ (by omega) (by omega), p1])
    have et : (pWd B t).take (k + 1) = (pWd B t).take k ++ [(pWd B t).getD k 0] := by
      rw [List.take_succ_eq_append_getElem (by omega), List.getD_eq_getElem?_getD, List.getElem?_eq_getElem (by omega)]; rfl
    unfold fLX7_hasEachOnce_7
    simp only []
    rw [g_246_5, sb, h5, if_neg (by rw [le32 (by omega) (by omega) (by omega) (by omega)]; omega), g_246_1, sb, c_byte hT (by omega), sb, q97, s32, show i32 ((bt B (t.1 + k) : Int) - 97) = i32 (((pWd B t).getD k 0 : Nat) : Int) by rw [hg]; congr 1; omega, show (1 : Int32) <<< (i32 (((pWd B t).getD k 0 : Nat) : Int) &&& 31) = i32 ((1 * 2 ^ ((pWd B t).getD k 0) : Nat) : Int) from shl32 (a := 1) (by omega), or32, xlet_eq, xlet_eq, q1, a32, et, zbt_app, Nat.one_mul]; rfl
  · unfold fLX7_hasEachOnce_7
    simp only []
    rw [g_246_5, sb, h5, if_pos (by rw [le32 (by omega) (by omega) (by omega) (by omega)]; omega), List.take_of_length_le (by omega)]
end RD
