/-! HEADS in the class: the lesser of two rows -/
def ordN (a b : List Nat) : Int := match fdx a b with
  | some k => if a.getD k 0 < b.getD k 0 then -1 else 1
  | none => 0
theorem fdx_app {a b a' b' : List Nat} (h1 : a.length = a'.length) (h2 : b.length = b'.length) : fdx (a ++ b) (a' ++ b') = match fdx a a' with
    | some k => some k
    | none => (fdx b b').map (fun k => a.length + k) := by
  cases hf : fdx a a' with
  | some k =>
    unfold fdx at hf
    obtain ⟨k1, k2, k3⟩ := find_some hf
    unfold fdx
    refine find_first (by rw [List.length_append]; omega) ?_ (fun j hj => ?_)
    · rw [getD_app1 k1, getD_app1 (by omega)]; exact k2
    · rw [getD_app1 (by omega), getD_app1 (by omega)]; exact k3 j hj
  | none =>
    have e := fdx_none h1 hf
    subst e
    cases hg : fdx b b' with
    | some k =>
      unfold fdx at hg
      obtain ⟨k1, k2, k3⟩ := find_some hg
      unfold fdx
      have hgd : ∀ (m : List Nat) (j : Nat), (a ++ m).getD (a.length + j) 0 = m.getD j 0 := fun m j => by
        rw [List.getD_eq_getElem?_getD, List.getD_eq_getElem?_getD, List.getElem?_append_right (by omega), Nat.add_sub_cancel_left]
      show _ = some (a.length + k)
      refine find_first (by rw [List.length_append]; omega) ?_ (fun j hj => ?_)
      · rw [hgd, hgd]; exact k2
      · by_cases c : j < a.length
        · rw [getD_app1 c, getD_app1 c]; simp
        · have := k3 (j - a.length) (by omega)
          rw [show j = a.length + (j - a.length) by omega, hgd, hgd]; exact this
    | none =>
      have e := fdx_none h2 hg
      subst e
      unfold fdx
      rw [Option.map_none, List.find?_eq_none]
      intro k _
      simp
section HC
variable {h c : Nat} {s : Mm}
theorem c_ordN {a b : List Nat} (ha : Ww a) (hb : Ww b) (hl : a.length = b.length) : fX4_orderByNumbers (i64 (cw a : Int)) (i64 (cw b : Int)) = some (i32 (ordN a b)) := by
  have h16 := ha.1
  unfold fX4_orderByNumbers ordN fdx
  rw [loop_find (fun k => decide (¬ a.getD k 0 = b.getD k 0)) (fun k => i32 (k : Int)) (.inr ()) (fun k => .inl (i32 (if a.getD k 0 < b.getD k 0 then -1 else 1))) a.length ?_ ?_ (show (0 : Int32) = _ from rfl), sb]
  · cases (List.range a.length).find? (fun k => decide (¬ a.getD k 0 = b.getD k 0)) <;> rfl
  · intro k hk
    have e1 := getD_lt ha.2 hk
    have e2 := getD_lt hb.2 (show k < b.length by omega)
    unfold fLX4_orderByNumbers_3
    rw [c_len ha, sb, if_neg (by rw [le32 (by omega) (by omega) (by omega) (by omega)]; omega), c_let ha (by omega), sb, c_let hb (by omega), sb, ltr_of hk, ltr_of (by omega), c_cmpi (by omega) (by omega), sb]
    by_cases c1 : a.getD k 0 = b.getD k 0
    · rw [if_pos (show ((a.getD k 0 : Nat) : Int) = ((b.getD k 0 : Nat) : Int) by omega), if_pos (by decide), xlet_eq, q1, a32, if_neg (by rw [decide_eq_true_eq]; exact fun hn => hn c1)]; rfl
    · rw [if_neg (show ¬ ((a.getD k 0 : Nat) : Int) = ((b.getD k 0 : Nat) : Int) by omega), if_pos (decide_eq_true c1)]
      by_cases c2 : a.getD k 0 < b.getD k 0
      · rw [if_neg (show ¬ ((b.getD k 0 : Nat) : Int) < ((a.getD k 0 : Nat) : Int) by omega), if_neg (by decide), if_pos c2]
      · rw [if_pos (show ((b.getD k 0 : Nat) : Int) < ((a.getD k 0 : Nat) : Int) by omega), if_neg (by decide), if_neg c2]
  · unfold fLX4_orderByNumbers_3
    rw [c_len ha, sb, if_pos (by rw [le32 (by omega) (by omega) (by omega) (by omega)]; omega)]
theorem ordN_less {a b : List Nat} (hl : a.length = b.length) : (ordN a b = -1 → lessB a b = false) ∧ (ordN a b = 1 → lessB a b = true) ∧ (ordN a b = 0 → a = b) := by
  unfold ordN lessB
  cases hf : fdx a b with
  | none => exact ⟨fun e => absurd e (show ¬ (0 : Int) = -1 from by decide), fun e => absurd e (show ¬ (0 : Int) = 1 from by decide), fun _ => fdx_none hl hf⟩
  | some k =>
    unfold fdx at hf
    obtain ⟨-, h2, -⟩ := find_some hf
    rw [decide_eq_true_eq] at h2
    simp only []
    by_cases c : a.getD k 0 < b.getD k 0
    · rw [if_pos c]
      exact ⟨fun _ => decide_eq_false (by omega), fun e => absurd e (by decide), fun e => absurd e (by decide)⟩
    · rw [if_neg c]
      exact ⟨fun e => absurd e (by decide), fun _ => decide_eq_true (by omega), fun e => absurd e (by decide)⟩
theorem ordN3 (a b : List Nat) : ordN a b = 1 ∨ ordN a b = 0 ∨ ordN a b = -1 := by
  unfold ordN
  split
  · split
    · exact Or.inr (Or.inr rfl)
    · exact Or.inl rfl
  · exact Or.inr (Or.inl rfl)
/-- the head of a rule lies in the cell c -/
def HD (s : Mm) (c : Nat) (l r : List Nat) : Prop := s.2 c 2 = i64 (cw ((hd l r).take l.length) : Int) ∧ s.2 c 3 = i64 (cw ((hd l r).drop l.length) : Int)
theorem hd_ww {l r : List Nat} (hl : Ww l) (hr : Ww r) : Ww ((hd l r).take l.length) ∧ Ww ((hd l r).drop l.length) ∧ ((hd l r).take l.length).length = l.length ∧ ((hd l r).drop l.length).length = r.length := by
  have hlen : (hd l r).length = l.length + r.length := by
    unfold hd
    split
    · exact hB_len l r
    · exact hA_len l r
  have h5 : ∀ x ∈ hd l r, x < 5 := by
    intro x hx
    unfold hd at hx
    split at hx
    · refine cnn_5 (fun y hy => ?_) x hx
      unfold rv at hy
      rcases List.mem_append.mp hy with hy | hy
      · exact hl.2 y (List.mem_reverse.mp hy)
      · exact hr.2 y (List.mem_reverse.mp hy)
    · refine cnn_5 (fun y hy => ?_) x hx
      rcases List.mem_append.mp hy with hy | hy
      · exact hl.2 y hy
      · exact hr.2 y hy
  have e1 : ((hd l r).take l.length).length = l.length := by rw [List.length_take]; omega
  have e2 : ((hd l r).drop l.length).length = r.length := by rw [List.length_drop]; omega
  exact ⟨⟨by rw [e1]; exact hl.1, fun x hx => h5 x (List.mem_of_mem_take hx)⟩, ⟨by rw [e2]; exact hr.1, fun x hx => h5 x (List.mem_of_mem_drop hx)⟩, e1, e2⟩
theorem c_findOf (H : Hc c) {l r : List Nat} (hl : Ww l) (hr : Ww r) : ∃ s' : Mm, fX4_findOf (M h s) (h + c) (i64 (cw l : Int)) (i64 (cw r : Int)) = some (M h s') ∧ HD s' c l r ∧ Fr c (c + 1) s s' := by
  have hlr : Ww l.reverse := ⟨by rw [List.length_reverse]; exact hl.1, fun x hx => hl.2 x (List.mem_reverse.mp hx)⟩
  have hrr : Ww r.reverse := ⟨by rw [List.length_reverse]; exact hr.1, fun x hx => hr.2 x (List.mem_reverse.mp hx)⟩
  obtain ⟨s1, a1, a2, a3, a4⟩ := c_forget (h := h) (s := s) H
  obtain ⟨s2, b1, b2, b3, b4⟩ := c_rename (h := h) H a2 (fun x hx => (by cases hx)) hl
  rw [List.nil_append, List.length_nil, List.drop_zero] at b1
  rw [List.nil_append] at b2
  obtain ⟨s3, d1, d2, d3, d4⟩ := c_rename (h := h) H b2 hl.2 hr
  obtain ⟨s4, e1, e2, e3, e4⟩ := c_forget (h := h) (s := s3) H
  obtain ⟨s5, f1, f2, f3, f4⟩ := c_rename (h := h) H e2 (fun x hx => (by cases hx)) hlr
  rw [List.nil_append, List.length_nil, List.drop_zero] at f1
  rw [List.nil_append] at f2
  have f2' : NM (mL s5 c (vp_updL (s5.2 c) 2 (i64 (cw (cnn l.reverse) : Int)))) c (nms l.reverse) := f2
  obtain ⟨s6, g1, g2, g3, g4⟩ := c_rename (h := h) H f2' hlr.2 hrr
  have eAL : cnn l = (hA l r).take l.length := (cnn_pre l r).symm
  have eBL : cnn l.reverse = (hB l r).take l.length := by
    have := cnn_pre l.reverse r.reverse
    rw [List.length_reverse] at this
    exact this.symm
  have eBR : (cnn (l.reverse ++ r.reverse)).drop l.reverse.length = (hB l r).drop l.length := by rw [List.length_reverse]; rfl
  have eAR : (cnn (l ++ r)).drop l.length = (hA l r).drop l.length := rfl
  rw [eBR] at g1
  have hFr : Fr c (c + 1) s s6 := ((((a3.tr b3).tr d3).tr e3).tr f3).tr ((Fr.rf.mL (by omega) (by omega)).tr g3)
  have lA := hA_len l r
  have lB := hB_len l r
  have wAL : Ww ((hA l r).take l.length) := by rw [← eAL]; exact ⟨by rw [cnn_len]; exact hl.1, cnn_5 hl.2⟩
  have wBL : Ww ((hB l r).take l.length) := by rw [← eBL]; exact ⟨by rw [cnn_len]; exact hlr.1, cnn_5 hlr.2⟩
  have h5a : ∀ x ∈ hA l r, x < 5 := fun x hx => cnn_5 (fun y hy => by
    rcases List.mem_append.mp hy with hy | hy
    · exact hl.2 y hy
    · exact hr.2 y hy) x hx
  have h5b : ∀ x ∈ hB l r, x < 5 := fun x hx => cnn_5 (fun y hy => by
    unfold rv at hy
    rcases List.mem_append.mp hy with hy | hy
    · exact hlr.2 y hy
    · exact hrr.2 y hy) x hx
  have wAR : Ww ((hA l r).drop l.length) := ⟨by rw [List.length_drop]; have := hr.1; omega, fun x hx => h5a x (List.mem_of_mem_drop hx)⟩
  have wBR : Ww ((hB l r).drop l.length) := ⟨by rw [List.length_drop]; have := hr.1; omega, fun x hx => h5b x (List.mem_of_mem_drop hx)⟩
  have hless : lessB (hA l r) (hB l r) = match fdx ((hA l r).take l.length) ((hB l r).take l.length) with
      | some k => decide (((hB l r).take l.length).getD k 0 < ((hA l r).take l.length).getD k 0)
      | none => lessB ((hA l r).drop l.length) ((hB l r).drop l.length) := by
    have hsp := fdx_app (a := (hA l r).take l.length) (b := (hA l r).drop l.length) (a' := (hB l r).take l.length) (b' := (hB l r).drop l.length) (by rw [List.length_take, List.length_take]; omega) (by rw [List.length_drop, List.length_drop]; omega)
    rw [List.take_append_drop, List.take_append_drop] at hsp
    have htl : ((hA l r).take l.length).length = l.length := by rw [List.length_take]; omega
    have hgt : ∀ (a : List Nat) (k : Nat), k < l.length → l.length ≤ a.length → (a.take l.length).getD k 0 = a.getD k 0 := fun a k hk ha => by
      rw [List.getD_eq_getElem?_getD, List.getD_eq_getElem?_getD, List.getElem?_take_of_lt hk]
    have hgd : ∀ (a : List Nat) (k : Nat), (a.drop l.length).getD k 0 = a.getD (l.length + k) 0 := fun a k => by
      rw [List.getD_eq_getElem?_getD, List.getD_eq_getElem?_getD, List.getElem?_drop]
    unfold lessB
    rw [hsp]
    cases hf : fdx ((hA l r).take l.length) ((hB l r).take l.length) with
    | some k =>
      unfold fdx at hf
      have hk := (find_some hf).1
      rw [htl] at hk
      simp only []
      rw [hgt _ k hk (by omega), hgt _ k hk (by omega)]
    | none =>
      simp only []
      rw [htl]
      cases fdx ((hA l r).drop l.length) ((hB l r).drop l.length) with
      | none => rfl
      | some k =>
        simp only [Option.map_some]
        rw [hgd, hgd]
  unfold fX4_findOf
  simp only [hc_o H, sb, a1, b1, d1, e1, c_back hl, f1, hcw_2 H, c_back hr, g1, hcw_3 H, hc_2 H, hc_3 H, mL_at, updL_at, updL_ne (show (2 : Nat) ≠ 3 by decide), g4]
  rw [eAL, eBL, c_ordN wAL wBL (by rw [List.length_take, List.length_take]; omega), sb]
  have hlt : ((hA l r).take l.length).length = ((hB l r).take l.length).length := by rw [List.length_take, List.length_take]; omega
  have hldr : ((hA l r).drop l.length).length = ((hB l r).drop l.length).length := by rw [List.length_drop, List.length_drop]; omega
  obtain ⟨n1, n2, n3⟩ := ordN_less hlt
  obtain ⟨m1, m2, m3⟩ := ordN_less hldr
  have hlessL : ¬ ordN ((hA l r).take l.length) ((hB l r).take l.length) = 0 → lessB (hA l r) (hB l r) = lessB ((hA l r).take l.length) ((hB l r).take l.length) := by
    intro hz
    rw [hless]
    unfold ordN at hz
    conv => rhs; unfold lessB
    cases hf : fdx ((hA l r).take l.length) ((hB l r).take l.length) with
    | none => rw [hf] at hz; exact absurd rfl hz
    | some k => rfl
  have hlessR : ordN ((hA l r).take l.length) ((hB l r).take l.length) = 0 → lessB (hA l r) (hB l r) = lessB ((hA l r).drop l.length) ((hB l r).drop l.length) := by
    intro hz
    rw [hless]
    have := n3 hz
    have hn : fdx ((hA l r).take l.length) ((hB l r).take l.length) = none := by
      rw [this]
      unfold fdx
      rw [List.find?_eq_none]
      intro k _
      simp
    rw [hn]
  have hFa : ∀ (f g : Nat → Int64), Fr c (c + 1) s (mL (mL s6 c f) c g) := fun f g => (hFr.mL (by omega) (by omega)).mL (by omega) (by omega)
  have hahead : lessB (hA l r) (hB l r) = false → hd l r = hA l r := fun e => by unfold hd; rw [if_neg (by rw [e]; decide)]
  have hbackw : lessB (hA l r) (hB l r) = true → hd l r = hB l r := fun e => by unfold hd; rw [if_pos e]
  have h62 : s6.2 c 2 = i64 (cw ((hB l r).take l.length) : Int) := by rw [g4, mL_at, updL_at, eBL]
  rcases ordN3 ((hA l r).take l.length) ((hB l r).take l.length) with e | e | e
  · have hb := hbackw (by rw [hlessL (by rw [e]; decide)]; exact n2 e)
    rw [e, if_neg (by decide), if_neg (by decide)]
    refine ⟨_, rfl, ?_, hFr.mL (by omega) (by omega)⟩
    unfold HD
    rw [hb, mL_at, updL_ne (by decide), updL_at]
    first | exact ⟨h62, rfl⟩ | exact ⟨by rw [← eBL]; rfl, rfl⟩ | (refine ⟨?_, rfl⟩; simp only [mL_at, updL_at])
  · rw [e, if_neg (by decide), if_pos (by decide), eAR, c_ordN wAR wBR hldr, sb]
    rcases ordN3 ((hA l r).drop l.length) ((hB l r).drop l.length) with e2 | e2 | e2
    · have hb := hbackw (by rw [hlessR e]; exact m2 e2)
      rw [e2, if_pos (by decide)]
      refine ⟨_, rfl, ?_, hFr.mL (by omega) (by omega)⟩
      unfold HD
      rw [hb, mL_at, updL_ne (by decide), updL_at]
      first | exact ⟨h62, rfl⟩ | exact ⟨by rw [← eBL]; rfl, rfl⟩ | (refine ⟨?_, rfl⟩; simp only [mL_at, updL_at])
    · have hb : hd l r = hB l r := by
        have : hA l r = hB l r := by
          rw [← List.take_append_drop l.length (hA l r), ← List.take_append_drop l.length (hB l r), n3 e, m3 e2]
        unfold hd
        rw [this]; split <;> rfl
      rw [e2, if_pos (by decide)]
      refine ⟨_, rfl, ?_, hFr.mL (by omega) (by omega)⟩
      unfold HD
      rw [hb, mL_at, updL_ne (by decide), updL_at]
      first | exact ⟨h62, rfl⟩ | exact ⟨by rw [← eBL]; rfl, rfl⟩ | (refine ⟨?_, rfl⟩; simp only [mL_at, updL_at])
    · have hb := hahead (by rw [hlessR e]; exact m1 e2)
      rw [e2, if_neg (by decide)]
      refine ⟨_, rfl, ?_, ((hFr.mL (by omega) (by omega)).mL (by omega) (by omega)).mL (by omega) (by omega)⟩
      unfold HD
      rw [hb]
      simp only [mL_at, updL_at, updL_ne (show (2 : Nat) ≠ 3 by decide)]
      exact ⟨trivial, trivial⟩
  · have hb := hahead (by rw [hlessL (by rw [e]; decide)]; exact n1 e)
    rw [e, if_pos (by decide), eAR]
    refine ⟨_, rfl, ?_, ((hFr.mL (by omega) (by omega)).mL (by omega) (by omega)).mL (by omega) (by omega)⟩
    unfold HD
    rw [hb]
    simp only [mL_at, updL_at, updL_ne (show (2 : Nat) ≠ 3 by decide)]
    exact ⟨trivial, trivial⟩
end HC
