/-! READING in the reference: a line, the whole text -/
section RR4
variable {h : Nat} {s : Mm} {B : List Nat} {t : Tk} {S : Sys}
theorem r_weiX (hf : ¬ fin s) {x : Int64} : fJX12_readsLine_m_69 (M h s) (h + 308) x = some (M h s) := by
  unfold fJX12_readsLine_m_69
  rw [o_308, sb, r_numberX hf, sb]
  simp only []
  rw [o_308, sb, r_nfine hf, sb, if_pos rfl]
theorem r_wei (hC : CS s B t S) {x : Nat} (hx : x < 5) : ∃ s', fJX12_readsLine_m_69 (M h s) (h + 308) (i64 (r6 [x] : Int)) = some (M h s') ∧ RZ s s' B (if pNf B t 9 = 0 then (0, nx B t.2.2, setW S x (pNm B t)) else (pNf B t 9, t, S)) := by
  obtain ⟨s1, v, e1, f1, h1⟩ := r_number (h := h) hC (m := 9) (by decide)
  have l1 := pNf_le (B := B) (t := t) (m := 9)
  unfold fJX12_readsLine_m_69
  rw [o_308, sb, show (9 : Int32) = i32 ((9 : Nat) : Int) from q9, e1, sb]
  simp only []
  rcases h1 with ⟨k1, C1, rfl, k2, k3⟩ | ⟨k1, rfl, rfl⟩
  · obtain ⟨c1, c2, c3, c4, c5⟩ := id C1
    have er : (i64 (r6 [x] : Int)).toInt32 = i32 ((x + 1 : Nat) : Int) := by
      rw [toI]
      unfold r6
      simp
    rw [if_pos k1, o_308, sb, r_fine c3, sb, if_neg n10, g_308_15, sb, er, q2, a32, q1, s32, toL (by omega) (by omega), s_313 (by omega) (by omega), sb, show ((2 : Int) + ((x + 1 : Nat) : Int) - 1).toNat = 2 + x by omega]
    refine ⟨_, rfl, f1.tr ⟨fun _ _ => rfl, fun i a => by rw [mL_ne a], fun _ _ => rfl, fun j hj => by rw [mL_at, updL_ne (by omega)], fun h9 => ⟨h9, rfl⟩⟩, fun _ => ⟨c1, c2, c3, ?_, setW_wf c5 k2 k3⟩, fun h9 => absurd rfl h9⟩
    show RR ((mL s1 313 (vp_updL (s1.2 313) (2 + x) (i64 (pNm B t : Int)))).2 313) (setW S x (pNm B t))
    rw [mL_at]
    obtain ⟨r1, r2, r3, r4, r5, r6'⟩ := c4
    refine ⟨by rw [updL_ne (by omega)]; exact r1, by rw [updL_ne (by omega)]; exact r2, fun y hy => ?_, fun k hk => ?_, fun r hr => by rw [updL_ne (by omega)]; exact r5 r hr, fun r hr => by rw [updL_ne (by omega)]; exact r6' r hr⟩
    · show _ = i64 (((if y = x then pNm B t else S.2.2.1 y : Nat)) : Int)
      by_cases c : y = x
      · rw [if_pos c, c, updL_at]
      · rw [if_neg c, updL_ne (by omega)]; exact r3 y hy
    · have hk : k < S.1 := hk
      have hK := c5.1.2
      rw [updL_ne (by omega)]
      exact r4 k hk
  · rw [if_neg k1, o_308, sb, r_nfine (flt_nf k1 (by omega)), sb, if_pos rfl]
    exact ⟨_, rfl, rz_flt k1 (by omega) Frd.rf⟩
theorem r_rLin (hC : CS s B t S) : ∃ s', fX12_readsLine (M h s) (h + 308) = some (M h s') ∧ RZ s s' B (pLin B t S) := by
  obtain ⟨c1, c2, c3, c4, c5⟩ := id hC
  have hK := c5.1.2
  unfold fX12_readsLine pLin
  rw [o_308, sb, r_wordIs c1 c2 cst13, sb]
  by_cases k1 : pRw B t wRul
  · obtain ⟨s3, g1, g2⟩ := r_rRul (h := h) hC
    rw [if_pos k1, if_neg (by decide), if_pos k1, sb, g1, sb]
    exact ⟨s3, rfl, g2⟩
  · rw [if_neg k1, if_pos rfl, if_neg k1, sb, r_wordIs c1 c2 cst15, sb]
    by_cases k3 : pRw B t wOrd
    · have k2 : ¬ pRw B t wWei := fun h9 => absurd (k3.2.symm.trans h9.2) (by decide)
      obtain ⟨s3, g1, g2⟩ := r_rOrd (h := h) hC
      rw [if_pos k3, if_neg (by decide), if_neg k2, if_pos k3, sb, g1, sb]
      exact ⟨s3, rfl, g2⟩
    · rw [if_neg k3, if_pos rfl, sb, r_wordIs c1 c2 cst14, sb, sb]
      by_cases k2 : pRw B t wWei
      · obtain ⟨s1, e1, f1, C1⟩ := r_nx (h := h) hC
        obtain ⟨d1, d2, d3, d4, d5⟩ := id C1
        obtain ⟨s2, v, e2, h2⟩ := r_sideR (h := h) C1 (l := 1) (m := 1) (by decide) (by decide)
        rw [qp_eq d2] at h2
        have l1 := pSd_le (B := B) (t := nx B t.2.2) (K := S.1) (m := 1)
        rw [if_pos k2, if_pos k2, r_ck1 c3, sb, if_neg n10]
        simp only []
        rw [o_308, sb, e1, sb, o_308, sb, show (1 : Int32) = i32 ((1 : Nat) : Int) from q1, e2, sb]
        simp only []
        unfold pWei
        rcases h2 with ⟨m1, rfl, rfl⟩ | ⟨m1, rfl, rfl⟩
        · obtain ⟨s3, e3, f3, C3⟩ := r_nx (h := h) C1
          obtain ⟨p1, p2, p3, p4⟩ := pSd_0 d2 m1
          have hw1 : pWd B (nx B t.2.2) = [(pWd B (nx B t.2.2)).getD 0 0] := by
            cases ew : pWd B (nx B t.2.2) with
            | nil => exact absurd ew p4
            | cons a l =>
              rw [ew] at p2
              cases l with
              | nil => rfl
              | cons b l => simp at p2
          have hx5 : (pWd B (nx B t.2.2)).getD 0 0 < 5 := by
            have := p3 _ (getD_mem (d := 0) (List.length_pos_iff.mpr p4)); omega
          obtain ⟨s4, e4, h4⟩ := r_wei (h := h) C3 hx5
          rw [if_pos m1, o_308, sb, r_fine d3, sb, if_neg n10, sb, e3, sb, hw1, e4]
          rw [← hw1]
          exact ⟨s4, rfl, RZ.pre (f1.tr f3) h4⟩
        · rw [if_neg m1, o_308, sb, r_nfine (flt_nf m1 (by omega)), sb, if_pos rfl, r_weiX (flt_nf m1 (by omega))]
          exact ⟨_, rfl, rz_flt m1 (by omega) f1⟩
      · rw [if_neg k2, if_neg k2, if_neg k3, show (1 : Int32) = i32 ((1 : Nat) : Int) from q1, r_ck0 c3 (by decide) (by decide) c1.2.2.1, sb, if_pos rfl]
        exact ⟨_, rfl, rz_flt (by decide) (by decide) Frd.rf⟩
def lpR (B : List Nat) (n : Nat) (t : Tk) (S : Sys) : PR := if t.2.1 = 0 then (0, t, S) else if (pLin B t S).1 = 0 then pTxt B n (pLin B t S).2.1 (pLin B t S).2.2 else pLin B t S
theorem pTxt_lp {n : Nat} : pTxt B (n + 1) t S = if pSg B t 59 then lpR B n (nx B t.2.2) S else (1, t, S) := by
  rw [pTxt]; rfl
theorem r_stop (hf : ¬ fin s) : iterP (fLX12_system_101 (h + 308)) (M h s) = some (M h s) := by
  refine iter_to 0 (fun _ => M h s) rfl (fun k hk => absurd hk (by omega)) ?_
  unfold fLX12_system_101
  rw [o_308, sb, r_nfine hf, sb, if_pos rfl]
theorem r_sysLoop : ∀ (n i : Nat) (t : Tk) (S : Sys) (s : Mm), i + n = 300 → i ≤ t.1 → nr S ≤ 6 → CS s B t S → ∃ s', iterP (fLX12_system_101 (h + 308)) (M h s) = some (M h s') ∧ RZ s s' B (lpR B n t S) := by
  intro n
  induction n with
  | zero =>
    intro i t S s hi ht h6 hC
    obtain ⟨c1, c2, c3, c4, c5⟩ := id hC
    have hl := c1.1.2.2.1
    have hb := c1.1.2.2.2
    have hk : t.2.1 = 0 := by
      by_cases c : t.2.1 = 0
      · exact c
      · have := c2.2.2.2.2.2.1 c
        have := c2.2.1
        omega
    refine ⟨s, ?_, ?_⟩
    · refine iter_to 0 (fun _ => M h s) rfl (fun k hk => absurd hk (by omega)) ?_
      unfold fLX12_system_101
      rw [o_308, sb, r_fine c3, sb, if_neg n10, g_308_11, sb, c1.2.2.2.1, if_pos (by rw [(tok_0 hb).mpr hk]; rfl)]
    · unfold lpR
      rw [if_pos hk]
      exact ⟨Frd.rf, fun _ => hC, fun h9 => absurd rfl h9⟩
  | succ n ih =>
    intro i t S s hi ht h6 hC
    obtain ⟨c1, c2, c3, c4, c5⟩ := id hC
    have hb := c1.1.2.2.2
    have htb := tok_b (t := t) hb
    unfold lpR
    by_cases k0 : t.2.1 = 0
    · refine ⟨s, ?_, ?_⟩
      · refine iter_to 0 (fun _ => M h s) rfl (fun k hk => absurd hk (by omega)) ?_
        unfold fLX12_system_101
        rw [o_308, sb, r_fine c3, sb, if_neg n10, g_308_11, sb, c1.2.2.2.1, if_pos (by rw [(tok_0 hb).mpr k0]; rfl)]
      · rw [if_pos k0]
        exact ⟨Frd.rf, fun _ => hC, fun h9 => absurd rfl h9⟩
    · have hne : ¬ tok B t = 1002 := fun h9 => k0 ((tok_0 hb).mp h9)
      have hlt := c2.2.2.2.2.2.1 k0
      obtain ⟨s1, e1, F1, g1, g2⟩ := r_rLin (h := h) hC
      obtain ⟨p1, p2, p3⟩ := pLin_g c2 c5 h6
      rw [if_neg k0]
      by_cases k1 : (pLin B t S).1 = 0
      · have C1 := g1 k1
        obtain ⟨q1', q2', q3'⟩ := p3 k1
        obtain ⟨s2, e2, F2, h2⟩ := r_must (h := h) C1 (c := 59) (by decide)
        have hb2 : fLX12_system_101 (h + 308) (M h s) = some (.inl (M h s2)) := by
          unfold fLX12_system_101
          rw [o_308, sb, r_fine c3, sb, if_neg n10, g_308_11, sb, c1.2.2.2.1, show (1002 : Int32) = i32 1002 from by decide, if_neg (by rw [eq32 (by omega) (by omega) (by omega) (by omega)]; omega), sb, e1, sb, o_308, sb, show (59 : Int32) = i32 ((59 : Nat) : Int) from q59, e2, sb]
        rw [iter_inl hb2, if_pos k1, pTxt_lp]
        rcases h2 with ⟨m1, C2⟩ | ⟨m1, rfl⟩
        · obtain ⟨v2, w2⟩ := nx_tv C1.2.1.2.1
          obtain ⟨s3, e3, h3⟩ := ih (i + 1) _ _ s2 (by omega) (by have := C1.2.1.2.2.1; omega) q3' C2
          rw [if_pos m1]
          exact ⟨s3, e3, RZ.pre (F1.tr F2) h3⟩
        · rw [if_neg m1, r_stop (flt_nf (by decide) (by decide))]
          exact ⟨_, rfl, rz_flt (by decide) (by decide) F1⟩
      · obtain ⟨m1, m2, m3⟩ := g2 k1
        have hb2 : fLX12_system_101 (h + 308) (M h s) = some (.inl (M h s1)) := by
          unfold fLX12_system_101
          rw [o_308, sb, r_fine c3, sb, if_neg n10, g_308_11, sb, c1.2.2.2.1, show (1002 : Int32) = i32 1002 from by decide, if_neg (by rw [eq32 (by omega) (by omega) (by omega) (by omega)]; omega), sb, e1, sb, o_308, sb, r_mustX m3, sb]
        rw [iter_inl hb2, if_neg k1, r_stop m3]
        exact ⟨s1, rfl, F1, g1, g2⟩
theorem r_clears {c : Nat} (hsc : sh c = .inl (1, 294)) (hc : c < 340) {K : Nat} (hK : K ≤ 5) : ∃ f : Nat → Int64, fX12_clears (M h s) (h + c) (i32 (K : Int)) = some (M h (mL s c f)) ∧ f 0 = i64 (K : Int) ∧ f 1 = 0 ∧ (∀ x, x < 5 → f (2 + x) = i64 1) ∧ (∀ x, x < 5 → f (7 + x) = i64 (x : Int)) ∧ (∀ j, 12 ≤ j → j < 294 → f j = 0) := by
  have w : ∀ (f : Nat → Int64) (e : Int) (v : Int64), 0 ≤ e → e < 294 → sL (M h (mL s c f)) (h + c) (i32 e) v = some (M h (mL s c (vp_updL f e.toNat v))) := fun f e v h1 h2 => by
    rw [sL_M hsc hc h1 h2 (by decide), mL_at, mL_mL]
  have hid : mL s c (s.2 c) = s := by
    unfold mL
    refine Prod.ext rfl (funext (fun a => ?_))
    show (if a = c then s.2 c else s.2 a) = s.2 a
    by_cases h9 : a = c
    · rw [if_pos h9, h9]
    · rw [if_neg h9]
  have h1 : ∃ y, iterP (fLX12_clears_2 (h + c) (i32 (K : Int))) (0, M h s) = some y ∧ ∃ f, y = M h (mL s c f) ∧ ∀ j, j < 294 → f j = 0 := by
    refine loop_ex (fun k x => ∃ f, x = (i32 (k : Int), M h (mL s c f)) ∧ ∀ j, j < k → f j = 0) _ 294 (fun k x hk hx => ?_) (fun x hx => ?_) ⟨s.2 c, by rw [hid]; rfl, fun j hj => absurd hj (by omega)⟩
    · obtain ⟨f, rfl, g1⟩ := hx
      refine ⟨(i32 ((k + 1 : Nat) : Int), M h (mL s c (vp_updL f k 0))), ?_, _, rfl, fun j hj => ?_⟩
      · unfold fLX12_clears_2
        simp only []
        rw [if_neg (by rw [q294]; rw [le32 (by omega) (by omega) (by omega) (by omega)]; omega), w f (k : Int) 0 (by omega) (by omega), sb, tn0, xlet_eq, q1, a32]; rfl
      · by_cases h9 : j = k
        · subst h9; rw [updL_at]
        · rw [updL_ne h9]; exact g1 j (by omega)
    · obtain ⟨f, rfl, g1⟩ := hx
      refine ⟨_, ?_, f, rfl, g1⟩
      unfold fLX12_clears_2
      simp only []
      rw [if_pos (by rw [q294]; rw [le32 (by omega) (by omega) (by omega) (by omega)]; omega)]
  obtain ⟨y, e1, f, rfl, g1⟩ := h1
  have h2 : ∃ y, iterP (fLX12_clears_26 (h + c)) (0, M h (mL s c (vp_updL f 0 (i64 (K : Int))))) = some y ∧ ∃ f', y = M h (mL s c f') ∧ f' 0 = i64 (K : Int) ∧ f' 1 = 0 ∧ (∀ x, x < 5 → f' (2 + x) = i64 1) ∧ (∀ x, x < 5 → f' (7 + x) = i64 (x : Int)) ∧ (∀ j, 12 ≤ j → j < 294 → f' j = 0) := by
    refine loop_ex (fun k x => ∃ f', x = (i32 (k : Int), M h (mL s c f')) ∧ f' 0 = i64 (K : Int) ∧ f' 1 = 0 ∧ (∀ x, x < k → f' (2 + x) = i64 1) ∧ (∀ x, x < k → f' (7 + x) = i64 (x : Int)) ∧ (∀ j, 12 ≤ j → j < 294 → f' j = 0)) _ 5 (fun k x hk hx => ?_) (fun x hx => ?_) ⟨vp_updL f 0 (i64 (K : Int)), rfl, by rw [updL_at], by rw [updL_ne (by decide)]; exact g1 1 (by decide), fun x hx => absurd hx (by omega), fun x hx => absurd hx (by omega), fun j a b => by rw [updL_ne (by omega)]; exact g1 j b⟩
    · obtain ⟨f', rfl, m1, m2, m3, m4, m5⟩ := hx
      refine ⟨(i32 ((k + 1 : Nat) : Int), M h (mL s c (vp_updL (vp_updL f' (2 + k) 1) (7 + k) (i64 (k : Int))))), ?_, _, rfl, ?_, ?_, fun x hx => ?_, fun x hx => ?_, fun j a b => ?_⟩
      · unfold fLX12_clears_26
        simp only []
        rw [if_neg (by rw [q5]; rw [le32 (by omega) (by omega) (by omega) (by omega)]; omega), q2, a32, w f' _ 1 (by omega) (by omega), sb, show ((2 : Int) + (k : Int)).toNat = 2 + k by omega, q7, a32, toL (by omega) (by omega), w _ _ _ (by omega) (by omega), sb, show ((7 : Int) + (k : Int)).toNat = 7 + k by omega, xlet_eq, q1, a32]; rfl
      · rw [updL_ne (by omega), updL_ne (by omega)]; exact m1
      · rw [updL_ne (by omega), updL_ne (by omega)]; exact m2
      · rw [updL_ne (by omega)]
        by_cases h9 : x = k
        · subst h9; rw [updL_at]; rfl
        · rw [updL_ne (by omega)]; exact m3 x (by omega)
      · by_cases h9 : x = k
        · subst h9; rw [updL_at]
        · rw [updL_ne (by omega), updL_ne (by omega)]; exact m4 x (by omega)
      · rw [updL_ne (by omega), updL_ne (by omega)]; exact m5 j a b
    · obtain ⟨f', rfl, g2⟩ := hx
      refine ⟨_, ?_, f', rfl, g2⟩
      unfold fLX12_clears_26
      simp only []
      rw [if_pos (by rw [q5]; rw [le32 (by omega) (by omega) (by omega) (by omega)]; omega)]
  obtain ⟨y, e2, f', rfl, g2⟩ := h2
  refine ⟨f', ?_, g2⟩
  unfold fX12_clears
  rw [e1, sb, toL (by omega) (by omega), show sL (M h (mL s c f)) (h + c) 0 (i64 (K : Int)) = _ from w f 0 _ (by decide) (by decide), sb]
  have e2' : iterP (fLX12_clears_26 (h + c)) (0, M h (mL s c (vp_updL f (0 : Int).toNat (i64 (K : Int))))) = some (M h (mL s c f')) := e2
  rw [e2', sb]
theorem r_copies {a b na nb p q : Nat} (hsa : sh a = .inl (1, na)) (hsb : sh b = .inl (1, nb)) (ha : a < 340) (hb : b < 340) (hp : p + 294 ≤ na) (hq : q + 294 ≤ nb) (hna : na ≤ 10000) (hnb : nb ≤ 10000) (hab : a ≠ b) : fX12_copies (M h s) (h + a) (i32 (p : Int)) (h + b) (i32 (q : Int)) = some (M h (mL s b (fun j => if q ≤ j ∧ j < q + 294 then s.2 a (p + (j - q)) else s.2 b j))) := by
  unfold fX12_copies
  rw [iter_to 294 (fun k => (i32 (k : Int), M h (mL s b (fun j => if q ≤ j ∧ j < q + k then s.2 a (p + (j - q)) else s.2 b j)))) ?_ ?_ ?_ (b := M h (mL s b (fun j => if q ≤ j ∧ j < q + 294 then s.2 a (p + (j - q)) else s.2 b j))), sb]
  · refine Prod.ext rfl ?_
    simp only []
    have hid : mL s b (fun j => if q ≤ j ∧ j < q + 0 then s.2 a (p + (j - q)) else s.2 b j) = s := by
      unfold mL
      refine Prod.ext rfl (funext (fun c => ?_))
      show (if c = b then (fun j => if q ≤ j ∧ j < q + 0 then s.2 a (p + (j - q)) else s.2 b j) else s.2 c) = s.2 c
      by_cases h9 : c = b
      · rw [if_pos h9, h9]
        funext j
        rw [if_neg (by omega)]
      · rw [if_neg h9]
    rw [hid]
  · intro k hk
    unfold fLX12_copies_3
    simp only []
    rw [if_neg (by rw [q294]; rw [le32 (by omega) (by omega) (by omega) (by omega)]; omega), a32, aL_M hsa ha (by omega) (by omega) (by omega), sb, mL_ne hab, a32, sL_M hsb hb (by omega) (by omega) (by omega), sb, mL_at, mL_mL, xlet_eq, q1, a32, show ((p : Int) + (k : Int)).toNat = p + k by omega, show ((q : Int) + (k : Int)).toNat = q + k by omega]
    refine congrArg (fun F => some (Sum.inl (i32 ((k : Int) + 1), M h (mL s b F)))) (funext (fun j => ?_))
    by_cases c : j = q + k
    · subst c
      rw [updL_at, if_pos (by omega), show p + (q + k - q) = p + k by omega]
    · rw [updL_ne c]
      by_cases c2 : q ≤ j ∧ j < q + k
      · rw [if_pos c2, if_pos (by omega)]
      · rw [if_neg c2, if_neg (by omega)]
  · unfold fLX12_copies_3
    simp only []
    rw [if_pos (by rw [q294]; rw [le32 (by omega) (by omega) (by omega) (by omega)]; omega)]
end RR4
