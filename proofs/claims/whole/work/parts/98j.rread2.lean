/-! READING in the reference: lines -/
section RR3
variable {h : Nat} {s : Mm} {B : List Nat} {t : Tk} {S : Sys}
/-- what a piece of a text leaves -/
def RZ (s s' : Mm) (B : List Nat) (r : PR) : Prop := Frd s s' ∧ (r.1 = 0 → CS s' B r.2.1 r.2.2) ∧ (r.1 ≠ 0 → s'.1 308 13 = i32 (r.1 : Int) ∧ s'.1 308 14 = i32 (r.2.1.1 : Int) ∧ ¬ fin s')
theorem rz_flt {c : Nat} {T : Sys} (hc : c ≠ 0) (hc2 : c ≤ 1000) {s0 : Mm} (hF : Frd s0 s) : RZ s0 (flt s c t.1) B (c, t, T) := by
  refine ⟨hF.tr (frd_flt hc hc2), fun h9 => absurd h9 hc, fun _ => ⟨?_, ?_, flt_nf hc hc2⟩⟩
  · unfold flt
    rw [mI_at, upd_ne (by decide), upd_at]
  · unfold flt
    rw [mI_at, upd_at]
theorem qp_eq (hV : TV B t) {K m : Nat} : qSd B K t 1 m = pSd B K t m := by
  unfold qSd pSd
  by_cases c : t.2.1 = 1
  · have := hV.2.2.2.2.2.1 (by omega)
    rw [if_pos c, if_pos c]
    by_cases c2 : t.2.2 - t.1 ≤ m ∧ ∀ x ∈ slc B t, x < 97 + K
    · rw [if_pos ⟨⟨by omega, c2.1⟩, c2.2⟩, if_pos c2]
    · rw [if_neg (fun h9 => c2 ⟨h9.1.2, h9.2⟩), if_neg c2]
  · rw [if_neg c, if_neg c]
theorem qSd_le {K l m : Nat} : qSd B K t l m ≤ 2 := by
  unfold qSd
  split
  · split <;> omega
  · omega
theorem r_radd (hC : CS s B t S) (h6 : nr S < 6) {l v : List Nat} (hl : Wk S.1 l) (hne : l ≠ []) (hv : Wk S.1 v) : ∃ s', fJX12_readsRule_m_103 (M h s) (h + 308) (i64 (r6 l : Int)) (i64 (r6 v : Int)) = some (M h s') ∧ Frd s s' ∧ CS s' B t (addRule S l v) := by
  obtain ⟨c1, c2, c3, c4, c5⟩ := id hC
  have e1 : ∀ s0 : Mm, s0.2 313 1 = i64 (nr S : Int) → aL (M h s0) (h + 313) 1 = some (i64 (nr S : Int)) := fun s0 h0 => by
    rw [q1, a_313 (by decide) (by decide)]; exact congrArg some h0
  have n1 : (mL (mL s 313 (vp_updL (s.2 313) (12 + nr S) (i64 (r6 l : Int)))) 313 (vp_updL ((mL s 313 (vp_updL (s.2 313) (12 + nr S) (i64 (r6 l : Int)))).2 313) (24 + nr S) (i64 (r6 v : Int)))).2 313 1 = i64 (nr S : Int) := by
    rw [mL_at, updL_ne (by omega), mL_at, updL_ne (by omega)]; exact c4.2.1
  have w3 : ∀ (s0 : Mm) (x : Int64), sL (M h s0) (h + 313) 1 x = some (M h (mL s0 313 (vp_updL (s0.2 313) 1 x))) := fun s0 x => by
    rw [q1, s_313 (by decide) (by decide)]; rfl
  refine ⟨mL s 313 (rowAdd (s.2 313) (nr S) l v), ?_, ⟨fun _ _ => rfl, fun i a => by rw [mL_ne a], fun _ _ => rfl, fun j hj => ?_, fun h9 => ⟨h9, rfl⟩⟩, c1, c2, c3, ?_, addRule_wf c5 (by omega) hl hv hne⟩
  · unfold fJX12_readsRule_m_103
    rw [o_308, sb, r_fine c3, sb, if_neg n10, g_308_15, sb, e1 s c4.2.1, sb, sb, toI, q12, a32, s_313 (by omega) (by omega), sb, show ((12 : Int) + (nr S : Int)).toNat = 12 + nr S by omega, g_308_15, sb, q24, a32, s_313 (by omega) (by omega), sb, show ((24 : Int) + (nr S : Int)).toNat = 24 + nr S by omega, g_308_15, sb, e1 _ n1, sb, show (1 : Int64) = i64 1 from by decide, a64, w3, sb]
    refine congrArg (fun z => some (M h z)) ?_
    rw [mL_mL, mL_mL, mL_at, mL_at]
    rfl
  · rw [mL_at]
    unfold rowAdd
    rw [updL_ne (by omega), updL_ne (by omega), updL_ne (by omega)]
  · show RR ((mL s 313 (rowAdd (s.2 313) (nr S) l v)).2 313) _
    rw [mL_at]
    exact c4.add (by omega) c5.1.2
theorem r_raddX (hf : ¬ fin s) {x y : Int64} : fJX12_readsRule_m_103 (M h s) (h + 308) x y = some (M h s) := by
  unfold fJX12_readsRule_m_103
  rw [o_308, sb, r_nfine hf, sb, if_pos rfl]
theorem r_rRgt (hC : CS s B t S) (h6 : nr S < 6) {l : List Nat} (hl : Wk S.1 l) (hne : l ≠ []) : ∃ s', fJX12_readsRule_m_49 (M h s) (h + 308) (i64 (r6 l : Int)) = some (M h s') ∧ RZ s s' B (if pSg B t 62 then pRgt B t S l else (1, t, S)) := by
  have hK := hC.2.2.2.2.1.2
  obtain ⟨s1, e1, f1, h1⟩ := r_must (h := h) hC (c := 62) (by decide)
  unfold fJX12_readsRule_m_49
  rw [o_308, sb, show (62 : Int32) = i32 ((62 : Nat) : Int) from q62, e1, sb]
  rcases h1 with ⟨k1, C1⟩ | ⟨k1, rfl⟩
  · obtain ⟨c1, c2, c3, c4, c5⟩ := id C1
    have hb := c1.1.2.2.2
    have htb := tok_b (t := nx B t.2.2) hb
    rw [if_pos k1, o_308, sb, r_fine c3, sb, if_neg n10, g_308_11, sb, c1.2.2.2.1, show (59 : Int32) = i32 ((59 : Nat) : Int) from q59]
    unfold pRgt
    by_cases k2 : pSg B (nx B t.2.2) 59
    · obtain ⟨s2, e2, f2, C2⟩ := r_radd (h := h) C1 h6 hl hne (v := []) ⟨by simp, fun x hx => by cases hx⟩
      rw [r6_nil] at e2
      rw [if_pos (by rw [(tok_sg c2 hb (by decide)).mpr k2]), if_pos k2, e2]
      exact ⟨s2, rfl, f1.tr f2, fun _ => C2, fun h9 => absurd rfl h9⟩
    · have hne9 : ¬ tok B (nx B t.2.2) = 59 := fun h9 => k2 ((tok_sg c2 hb (by decide)).mp h9)
      obtain ⟨s2, v, e2, h2⟩ := r_sideR (h := h) C1 (l := 1) (m := 4) (by decide) (by decide)
      rw [if_neg (by rw [eq32 (by omega) (by omega) (by omega) (by omega)]; omega), if_neg k2, sb, show (1 : Int32) = i32 ((1 : Nat) : Int) from q1, show (4 : Int32) = i32 ((4 : Nat) : Int) from q4, e2, sb]
      simp only []
      rw [qp_eq c2] at h2
      have l1 := pSd_le (B := B) (t := nx B t.2.2) (K := S.1) (m := 4)
      rcases h2 with ⟨k3, rfl, rfl⟩ | ⟨k3, rfl, rfl⟩
      · have hw := wk_of (by decide) c2 k3
        rw [if_pos k3]
        unfold fJX12_readsRule_m_92
        by_cases k4 : pWd B (nx B t.2.2) = l
        · rw [if_pos (by rw [cmp0, r6e (hw.ww hK) (hl.ww hK)]; exact k4), if_pos k4, o_308, sb, show (4 : Int32) = i32 ((4 : Nat) : Int) from q4, r_ck0 c3 (by decide) (by decide) c1.2.2.1, sb, if_pos rfl]
          simp only []
          rw [r_raddX (flt_nf (by decide) (by decide))]
          exact ⟨_, rfl, rz_flt (by decide) (by decide) f1⟩
        · obtain ⟨s3, e3, f3, C3⟩ := r_nx (h := h) C1
          obtain ⟨s4, e4, f4, C4⟩ := r_radd (h := h) C3 h6 hl hne hw
          rw [if_neg (by rw [cmp0, r6e (hw.ww hK) (hl.ww hK)]; exact k4), if_neg k4, o_308, sb, show fX12_check (M h s2) (h + 308) (i32 ((1 : Nat) : Int)) 4 = _ from r_ck1 c3, sb, if_neg n10]
          simp only []
          rw [o_308, sb, e3, sb, e4]
          exact ⟨s4, rfl, (f1.tr f3).tr f4, fun _ => C4, fun h9 => absurd rfl h9⟩
      · rw [if_neg k3]
        unfold fJX12_readsRule_m_92
        have hx : ∀ v k : Int32, fX12_check (M h (flt s1 (pSd B S.1 (nx B t.2.2) 4) (nx B t.2.2).1)) (h + 308) v k = some (0, M h (flt s1 (pSd B S.1 (nx B t.2.2) 4) (nx B t.2.2).1)) := fun v k => r_ckX (flt_nf k3 (by omega))
        have hend : ∀ v k : Int32, ((isO (M h (flt s1 (pSd B S.1 (nx B t.2.2) 4) (nx B t.2.2).1)) (h + 308) 11).bind fun _ => (fX12_check (M h (flt s1 (pSd B S.1 (nx B t.2.2) 4) (nx B t.2.2).1)) (h + 308) v k).bind fun w93 => if w93.1 = 0 then fJX12_readsRule_m_103 w93.2 (h + 308) (i64 (r6 l : Int)) 0 else (isO w93.2 (h + 308) 11).bind fun _ => (fX12_goes w93.2 (h + 308)).bind fun w100 => fJX12_readsRule_m_103 w100 (h + 308) (i64 (r6 l : Int)) 0) = some (M h (flt s1 (pSd B S.1 (nx B t.2.2) 4) (nx B t.2.2).1)) := fun v k => by
          rw [o_308, sb, hx, sb, if_pos rfl]
          simp only []
          rw [r_raddX (flt_nf k3 (by omega))]
        refine ⟨_, ?_, rz_flt k3 (by omega) f1⟩
        split
        · exact hend _ _
        · exact hend _ _
  · rw [if_neg k1, o_308, sb, r_nfine (flt_nf (by decide) (by decide)), sb, if_pos rfl, r_raddX (flt_nf (by decide) (by decide))]
    exact ⟨_, rfl, rz_flt (by decide) (by decide) Frd.rf⟩
theorem r_rRgtX (hf : ¬ fin s) {x : Int64} : fJX12_readsRule_m_49 (M h s) (h + 308) x = some (M h s) := by
  unfold fJX12_readsRule_m_49
  rw [o_308, sb, r_mustX hf, sb, o_308, sb, r_nfine hf, sb, if_pos rfl, r_raddX hf]
theorem RZ.pre {s0 s1 s2 : Mm} {r : PR} (h1 : Frd s0 s1) (h2 : RZ s1 s2 B r) : RZ s0 s2 B r := ⟨h1.tr h2.1, h2.2⟩
theorem r_rRul (hC : CS s B t S) : ∃ s', fX12_readsRule (M h s) (h + 308) = some (M h s') ∧ RZ s s' B (pRul B t S) := by
  obtain ⟨c1, c2, c3, c4, c5⟩ := id hC
  have h12 := c5.2.1
  have e1 : aL (M h s) (h + 313) 1 = some (i64 (nr S : Int)) := by
    rw [q1, a_313 (by decide) (by decide)]; exact congrArg some c4.2.1
  unfold fX12_readsRule fJX12_readsRule_m_19 pRul
  rw [g_308_15, sb, e1, sb, show (6 : Int64) = i64 6 from by decide]
  by_cases k0 : 6 ≤ nr S
  · rw [if_pos (by rw [cmpge, t64 (by omega) (by omega), t64 (by omega) (by omega)]; omega), if_pos k0, o_308, sb, show (3 : Int32) = i32 ((3 : Nat) : Int) from q3, r_ck0 c3 (by decide) (by decide) c1.2.2.1, sb, if_pos rfl]
    exact ⟨_, rfl, rz_flt (by decide) (by decide) Frd.rf⟩
  · rw [if_neg (by rw [cmpge, t64 (by omega) (by omega), t64 (by omega) (by omega)]; omega), if_neg k0, o_308, sb, r_ck1 c3, sb, if_neg n10]
    simp only []
    obtain ⟨s1, e2, f1, C1⟩ := r_nx (h := h) hC
    obtain ⟨d1, d2, d3, d4, d5⟩ := id C1
    obtain ⟨s2, v, e3, h2⟩ := r_sideR (h := h) C1 (l := 1) (m := 4) (by decide) (by decide)
    rw [qp_eq d2] at h2
    have l1 := pSd_le (B := B) (t := nx B t.2.2) (K := S.1) (m := 4)
    rw [o_308, sb, e2, sb, o_308, sb, show (1 : Int32) = i32 ((1 : Nat) : Int) from q1, show (4 : Int32) = i32 ((4 : Nat) : Int) from q4, e3, sb]
    simp only []
    rcases h2 with ⟨k3, rfl, rfl⟩ | ⟨k3, rfl, rfl⟩
    · obtain ⟨s3, e4, f3, C3⟩ := r_nx (h := h) C1
      obtain ⟨s4, e5, h5⟩ := r_rRgt (h := h) C3 (by omega) (wk_of (by decide) d2 k3) (pSd_0 d2 k3).2.2.2
      rw [if_pos k3, o_308, sb, r_fine d3, sb, if_neg n10, sb, e4, sb, e5]
      exact ⟨s4, rfl, RZ.pre (f1.tr f3) h5⟩
    · rw [if_neg k3, o_308, sb, r_nfine (flt_nf k3 (by omega)), sb, if_pos rfl, r_rRgtX (flt_nf k3 (by omega))]
      exact ⟨_, rfl, rz_flt k3 (by omega) f1⟩
theorem r_rOrd (hC : CS s B t S) : ∃ s', fX12_readsOrder (M h s) (h + 308) = some (M h s') ∧ RZ s s' B (pOrd B t S) := by
  obtain ⟨s1, e1, f1, C1⟩ := r_nx (h := h) hC
  obtain ⟨c1, c2, c3, c4, c5⟩ := id C1
  have hK := c5.1
  have e0 : aL (M h s1) (h + 313) 0 = some (i64 (S.1 : Int)) := by
    rw [q0, a_313 (by decide) (by decide)]; exact congrArg some c4.1
  obtain ⟨s2, v, e2, h2⟩ := r_sideR (h := h) C1 (l := S.1) (m := S.1) (by omega) (by omega)
  have l1 := qSd_le (B := B) (t := nx B t.2.2) (K := S.1) (l := S.1) (m := S.1)
  unfold fX12_readsOrder
  rw [o_308, sb, e1, sb, g_308_15, sb, e0, sb, o_308, sb, toI, e2, sb]
  simp only []
  rcases h2 with ⟨k3, rfl, rfl⟩ | ⟨k3, rfl, rfl⟩
  · have hp0 : pSd B S.1 (nx B t.2.2) S.1 = 0 ∧ (pWd B (nx B t.2.2)).length = S.1 := by
      unfold qSd at k3
      unfold pSd
      by_cases c : (nx B t.2.2).2.1 = 1
      · rw [if_pos c] at k3 ⊢
        by_cases c' : (S.1 ≤ (nx B t.2.2).2.2 - (nx B t.2.2).1 ∧ (nx B t.2.2).2.2 - (nx B t.2.2).1 ≤ S.1) ∧ ∀ x ∈ slc B (nx B t.2.2), x < 97 + S.1
        · rw [if_pos ⟨c'.1.2, c'.2⟩]
          exact ⟨rfl, by rw [pWd_len c2]; omega⟩
        · rw [if_neg c'] at k3; exact absurd k3 (by decide)
      · rw [if_neg c] at k3; exact absurd k3 (by decide)
    obtain ⟨hp1, hp2⟩ := hp0
    obtain ⟨p1, p2, p3, p4⟩ := pSd_0 c2 hp1
    have hWw : Ww (pWd B (nx B t.2.2)) := (wk_of (by omega) c2 hp1).ww hK.2
    have hzb : zbt (pWd B (nx B t.2.2)) < 2 ^ 40 := zbt_lt (fun m hm => by have := p3 m hm; omega)
    have hmet : iterP (fLX12_readsOrder_25 (M h s2) (h + 308) (i32 (S.1 : Int)) (i64 (r6 (pWd B (nx B t.2.2)) : Int))) (0, 0) = some (i32 (zbt (pWd B (nx B t.2.2)) : Int)) := by
      refine iter_to S.1 (fun k => (i32 (zbt ((pWd B (nx B t.2.2)).take k) : Int), i32 (k : Int))) (by rw [List.take_zero]; rfl) (fun k hk => ?_) ?_
      · have hx := p3 _ (getD_mem (d := 0) (show k < (pWd B (nx B t.2.2)).length by omega))
        have et : (pWd B (nx B t.2.2)).take (k + 1) = (pWd B (nx B t.2.2)).take k ++ [(pWd B (nx B t.2.2)).getD k 0] := by
          rw [List.take_succ_eq_append_getElem (by omega), List.getD_eq_getElem?_getD, List.getElem?_eq_getElem (by omega)]; rfl
        unfold fLX12_readsOrder_25
        simp only []
        rw [if_neg (by rw [le32 (by omega) (by omega) (by omega) (by omega)]; omega), o_308, sb, r_fine c3, sb, if_neg n10, r_let hWw (by omega), sb, ltr_of (by omega), show (1 : Int32) <<< (i32 (((pWd B (nx B t.2.2)).getD k 0 : Nat) : Int) &&& 31) = i32 ((1 * 2 ^ ((pWd B (nx B t.2.2)).getD k 0) : Nat) : Int) from shl32 (a := 1) (by omega), or32, xlet_eq, xlet_eq, q1, a32, et, zbt_app, Nat.one_mul]; rfl
      · unfold fLX12_readsOrder_25
        simp only []
        rw [if_pos (by rw [le32 (by omega) (by omega) (by omega) (by omega)]; omega), List.take_of_length_le (by omega)]
    unfold fJX12_readsOrder_m_57 fJX12_readsOrder_m_80 pOrd
    have hpow : 2 ^ S.1 ≤ 32 := Nat.le_trans (Nat.pow_le_pow_right (by decide) hK.2) (by decide)
    have hpos : 0 < 2 ^ S.1 := Nat.pow_pos (by decide)
    have hz5 : zbt (pWd B (nx B t.2.2)) < 1000000 := by
      have key : ∀ (l : List Nat) (a : Nat), a < 2 ^ 5 → (∀ m ∈ l, m < 5) → l.foldl (fun a m => a ||| 2 ^ m) a < 2 ^ 5 := by
        intro l
        induction l with
        | nil => intro a ha _; exact ha
        | cons x l ih =>
          intro a ha hx
          rw [List.foldl_cons]
          exact ih _ (Nat.or_lt_two_pow ha (Nat.pow_lt_pow_right (by decide) (hx x (by simp)))) (fun m hm => hx m (by simp [hm]))
      have := key (pWd B (nx B t.2.2)) 0 (by decide) (fun m hm => by have := p3 m hm; omega)
      unfold zbt
      omega
    rw [hmet, sb, o_308, sb, r_fine c3, sb, if_neg n10, show (1 : Int32) <<< (i32 (S.1 : Int) &&& 31) = i32 ((1 * 2 ^ S.1 : Nat) : Int) from shl32 (a := 1) (by omega), q1, s32, if_pos hp1]
    by_cases k5 : eaW S.1 (pWd B (nx B t.2.2))
    · have hzz := k5.2
      have hloop : ∃ y, iterP (fLX12_readsOrder_91 (h + 308) (i32 (S.1 : Int)) (i64 (r6 (pWd B (nx B t.2.2)) : Int))) (0, M h s2) = some y ∧ ∃ F, y = M h (mL s2 313 F) ∧ (∀ j, ¬ (7 ≤ j ∧ j < 12) → F j = s2.2 313 j) ∧ ∀ j, j < S.1 → F (7 + j) = i64 (((pWd B (nx B t.2.2)).getD j 0 : Nat) : Int) := by
        refine loop_ex (fun k x => ∃ F, x = (i32 (k : Int), M h (mL s2 313 F)) ∧ (∀ j, ¬ (7 ≤ j ∧ j < 12) → F j = s2.2 313 j) ∧ ∀ j, j < k → F (7 + j) = i64 (((pWd B (nx B t.2.2)).getD j 0 : Nat) : Int)) _ S.1 (fun k x hk hx => ?_) (fun x hx => ?_) ⟨s2.2 313, ?_, fun j _ => rfl, fun j hj => absurd hj (by omega)⟩
        · obtain ⟨F, rfl, g1, g2⟩ := hx
          have hx := p3 _ (getD_mem (d := 0) (show k < (pWd B (nx B t.2.2)).length by omega))
          refine ⟨(i32 ((k + 1 : Nat) : Int), M h (mL s2 313 (vp_updL F (7 + k) (i64 (((pWd B (nx B t.2.2)).getD k 0 : Nat) : Int))))), ?_, _, rfl, fun j hj => by rw [updL_ne (by omega)]; exact g1 j hj, fun j hj => ?_⟩
          · unfold fLX12_readsOrder_91
            simp only []
            rw [if_neg (by rw [le32 (by omega) (by omega) (by omega) (by omega)]; omega), g_308_15, sb, r_let hWw (by omega), sb, ltr_of (by omega), toL (by omega) (by omega), q7, a32, s_313 (by omega) (by omega), sb, show ((7 : Int) + (k : Int)).toNat = 7 + k by omega, mL_mL, mL_at, xlet_eq, q1, a32]; rfl
          · by_cases c : j = k
            · subst c
              rw [updL_at]
            · rw [updL_ne (by omega)]; exact g2 j (by omega)
        · obtain ⟨F, rfl, g1⟩ := hx
          refine ⟨M h (mL s2 313 F), ?_, F, rfl, g1⟩
          unfold fLX12_readsOrder_91
          simp only []
          rw [if_pos (by rw [le32 (by omega) (by omega) (by omega) (by omega)]; omega)]
        · have : mL s2 313 (s2.2 313) = s2 := by
            unfold mL
            refine Prod.ext rfl (funext (fun a => ?_))
            show (if a = 313 then s2.2 313 else s2.2 a) = s2.2 a
            by_cases c : a = 313
            · rw [if_pos c, c]
            · rw [if_neg c]
          rw [this]; rfl
      obtain ⟨y, e5, F, rfl, g1, g2⟩ := hloop
      have hC5 : CS (mL s2 313 F) B (nx B t.2.2) (setO S (pWd B (nx B t.2.2))) := by
        refine ⟨c1, c2, c3, ?_, setO_wf c5 k5⟩
        show RR ((mL s2 313 F).2 313) _
        rw [mL_at]
        obtain ⟨r1, r2, r3, r4, r5, r6'⟩ := c4
        refine ⟨by rw [g1 0 (by omega)]; exact r1, by rw [g1 1 (by omega)]; exact r2, fun x hx => by rw [g1 (2 + x) (by omega)]; exact r3 x hx, fun k hk => ?_, fun r hr => by rw [g1 (12 + r) (by omega)]; exact r5 r hr, fun r hr => by rw [g1 (24 + r) (by omega)]; exact r6' r hr⟩
        have hk : k < S.1 := hk
        exact ⟨(pWd B (nx B t.2.2)).getD k 0, p3 _ (getD_mem (by omega)), g2 k hk, rkW_at k5 hk⟩
      have f5 : Frd s2 (mL s2 313 F) := ⟨fun _ _ => rfl, fun i a => by rw [mL_ne a], fun _ _ => rfl, fun j hj => by rw [mL_at]; exact g1 j (by omega), fun h9 => ⟨h9, rfl⟩⟩
      obtain ⟨s6, e6, f6, C6⟩ := r_nx (h := h) hC5
      rw [if_pos (by rw [eq32 (by omega) (by omega) (by omega) (by omega)]; omega), sb, show fX12_check (M h s2) (h + 308) (i32 1) 2 = _ from r_ck1 c3, sb, if_neg n10]
      simp only []
      rw [if_pos k5, e5, sb, o_308, sb, e6, sb]
      exact ⟨s6, rfl, (f1.tr f5).tr f6, fun _ => C6, fun h9 => absurd rfl h9⟩
    · have hzz : ¬ zbt (pWd B (nx B t.2.2)) = 2 ^ S.1 - 1 := fun h9 => k5 ⟨hp2, h9⟩
      rw [if_neg (by rw [eq32 (by omega) (by omega) (by omega) (by omega)]; omega), sb, if_neg k5, show (2 : Int32) = i32 ((2 : Nat) : Int) from q2, r_ck0 c3 (by decide) (by decide) c1.2.2.1, sb, if_pos rfl]
      exact ⟨_, rfl, rz_flt (by decide) (by decide) f1⟩
  · have hpq : pOrd B t S = (qSd B S.1 (nx B t.2.2) S.1 S.1, nx B t.2.2, S) := by
      unfold pOrd
      by_cases c : (nx B t.2.2).2.1 = 1
      · have hq : qSd B S.1 (nx B t.2.2) S.1 S.1 = 2 := by
          unfold qSd at k3 ⊢
          rw [if_pos c] at k3 ⊢
          split at k3
          · exact absurd rfl k3
          · rename_i c'
            rw [if_neg c']
        rw [hq]
        by_cases c' : pSd B S.1 (nx B t.2.2) S.1 = 0
        · rw [if_pos c']
          by_cases c'' : eaW S.1 (pWd B (nx B t.2.2))
          · exfalso
            have hl := c''.1
            rw [pWd_len c2] at hl
            unfold qSd at hq
            rw [if_pos c] at hq
            unfold pSd at c'
            rw [if_pos c] at c'
            split at hq
            · exact absurd hq (by decide)
            · rename_i c3'
              split at c'
              · rename_i c4'
                exact c3' ⟨⟨by omega, c4'.1⟩, c4'.2⟩
              · exact absurd c' (by decide)
          · rw [if_neg c'']
        · rw [if_neg c']
          have := pSd_le (B := B) (t := nx B t.2.2) (K := S.1) (m := S.1)
          have h2' : pSd B S.1 (nx B t.2.2) S.1 = 2 := by
            unfold pSd at c' ⊢
            rw [if_pos c] at c' ⊢
            split at c'
            · exact absurd rfl c'
            · rename_i c4'
              rw [if_neg c4']
          rw [h2']
      · have hq : qSd B S.1 (nx B t.2.2) S.1 S.1 = 1 := by unfold qSd; rw [if_neg c]
        have hp : pSd B S.1 (nx B t.2.2) S.1 = 1 := by unfold pSd; rw [if_neg c]
        rw [hq, hp, if_neg (by decide)]
    have hmet : iterP (fLX12_readsOrder_25 (M h (flt s1 (qSd B S.1 (nx B t.2.2) S.1 S.1) (nx B t.2.2).1)) (h + 308) (i32 (S.1 : Int)) 0) (0, 0) = some 0 := by
      refine iter_to 0 (fun _ => ((0 : Int32), (0 : Int32))) rfl (fun k hk => absurd hk (by omega)) ?_
      unfold fLX12_readsOrder_25
      simp only []
      rw [if_neg (by rw [q0]; rw [le32 (by omega) (by omega) (by omega) (by omega)]; omega), o_308, sb, r_nfine (flt_nf k3 (by omega)), sb, if_pos rfl]
    rw [hpq, hmet, sb]
    unfold fJX12_readsOrder_m_57
    rw [o_308, sb, r_nfine (flt_nf k3 (by omega)), sb, if_pos rfl]
    exact ⟨_, rfl, rz_flt k3 (by omega) f1⟩
end RR3
