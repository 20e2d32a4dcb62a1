/-! HEADS in the reference -/
def cnt5 (ns : List Nat) : Nat := (List.range 5).foldl (fun a x => if x ∈ ns then a + 1 else a) 0
theorem cnt5_add {ns : List Nat} {x : Nat} (hx : x < 5) (hn : x ∉ ns) : cnt5 (ns ++ [x]) = cnt5 ns + 1 := by
  have e : ∀ ms : List Nat, cnt5 ms = (if 0 ∈ ms then 1 else 0) + (if 1 ∈ ms then 1 else 0) + (if 2 ∈ ms then 1 else 0) + (if 3 ∈ ms then 1 else 0) + (if 4 ∈ ms then 1 else 0) := by
    intro ms
    unfold cnt5
    simp only [show List.range 5 = [0, 1, 2, 3, 4] from rfl, List.foldl_cons, List.foldl_nil]
    repeat' split
    all_goals rfl
  rw [e, e]
  have hx : x = 0 ∨ x = 1 ∨ x = 2 ∨ x = 3 ∨ x = 4 := by omega
  rcases hx with rfl | rfl | rfl | rfl | rfl <;> simp [hn] <;> omega
theorem cnt5_nms {P : List Nat} (hP : ∀ x ∈ P, x < 5) : cnt5 (nms P) = (nms P).length := by
  have key : ∀ (n : Nat) (P : List Nat), P.length = n → (∀ x ∈ P, x < 5) → cnt5 (nms P) = (nms P).length := by
    intro n
    induction n with
    | zero => intro P h _; rw [List.length_eq_zero_iff.mp h]; rfl
    | succ n ih =>
      intro P h hP
      rcases List.eq_nil_or_concat P with rfl | ⟨P', x, hP'⟩
      · simp at h
      · rw [List.concat_eq_append] at hP'
        subst hP'
        rw [List.length_append] at h
        have := ih P' (by simpa using h) (fun y hy => hP y (by simp [hy]))
        rw [nms_snoc]
        unfold addN
        by_cases c : x ∈ nms P'
        · rw [if_pos c]; exact this
        · rw [if_neg c, cnt5_add (hP x (by simp)) c, this, List.length_append]; rfl
  exact key P.length P rfl hP
section RF
variable {h t : Nat} {s : Mm} {S : Sys}
/-- the reference's names and the row laid so far -/
def NR (s : Mm) (t : Nat) (P : List Nat) : Prop := (∀ x, x < 5 → s.1 321 x = i32 (nmv (nms P) x)) ∧ s.1 308 39 = i32 (P.length : Int) ∧ ∀ j, j < P.length → s.1 t j = i32 (((cnn P).getD j 0 : Nat) : Int)
def NF (s s' : Mm) (t : Nat) : Prop := (∀ i, i ≠ 308 → i ≠ 321 → i ≠ t → s'.1 i = s.1 i) ∧ s'.2 = s.2 ∧ ∀ j, j ≠ 39 → s'.1 308 j = s.1 308 j
theorem NF.rf : NF s s t := ⟨fun _ _ _ _ => rfl, rfl, fun _ _ => rfl⟩
theorem NF.tr {s' s'' : Mm} (h1 : NF s s' t) (h2 : NF s' s'' t) : NF s s'' t := ⟨fun i a b d => (h2.1 i a b d).trans (h1.1 i a b d), h2.2.1.trans h1.2.1, fun j hj => (h2.2.2 j hj).trans (h1.2.2 j hj)⟩
theorem r_side1 (ht : t = 322 ∨ t = 323) {P : List Nat} (hN : NR s t P) (hP : ∀ x ∈ P, x < 5) {x : Nat} (hx : x < 5) (hl : P.length < 32) {w : List Nat} (hw : Ww w) {k q : Nat} (hk : k < w.length) (hq : q < 100) (he : w.getD k 0 = x) {x2 : Int64} {x4 x5 : Int32} : ∃ s' : Mm, fJX12_namesSide_9_34 (M h s) (h + 308) (h + t) x2 x4 x5 (i32 (q : Int)) (i32 (k : Int)) (i64 (r6 w : Int)) = some (.inl (i32 ((q + 1 : Nat) : Int), M h s')) ∧ NR s' t (P ++ [x]) ∧ NF s s' t := by
  have hne : t ≠ 308 ∧ t ≠ 321 := by omega
  have hst : ∀ (s : Mm) (e : Int) (v : Int32), 0 ≤ e → e < 32 → sI (M h s) (h + t) (i32 e) v = some (M h (mI s t (upd (s.1 t) e.toNat v))) := by
    intro s e v h1 h2
    rcases ht with rfl | rfl
    · exact s_322 h1 h2
    · exact s_323 h1 h2
  obtain ⟨n1, n2, n3⟩ := hN
  have hcnt : iterP (fLX12_namesSide_45 (M h s) (h + 308) (h + t) x2 x4 x5 (i32 (q : Int)) (i32 (x : Int))) (0, 0) = some (i32 ((nms P).length : Int)) := by
    rw [loop_fold (fun (a : Nat) y => if y ∈ nms P then a + 1 else a) (fun a y => (i32 (a : Int), i32 (y : Int))) (fun a => i32 (a : Int)) 5 ?_ ?_ (a := 0) (show ((0 : Int32), (0 : Int32)) = _ from rfl)]
    · rw [show (List.range 5).foldl (fun (a : Nat) y => if y ∈ nms P then a + 1 else a) 0 = cnt5 (nms P) from rfl, cnt5_nms hP]
    · intro a y hy
      unfold fLX12_namesSide_45
      rw [if_neg (by rw [q5]; rw [le32 (by omega) (by omega) (by omega) (by omega)]; omega), g_308_36, sb, a_321 (by omega) (by omega), tn0, sb, n1 y hy]
      unfold nmv
      by_cases c : y ∈ nms P
      · have := nix_lt c
        have := nms_5 hP
        rw [if_pos c, if_neg (by rw [qm1]; rw [eq32 (by omega) (by omega) (by omega) (by omega)]; omega), xlet_eq, xlet_eq, q1, a32, a32, if_pos c]; rfl
      · rw [if_neg c, if_pos (show i32 (-1) = -1 from by decide), xlet_eq, xlet_eq, q1, a32, q0, a32, Int.add_zero, if_neg c]; rfl
    · intro a
      unfold fLX12_namesSide_45
      rw [if_pos (by rw [q5]; rw [le32 (by omega) (by omega) (by omega) (by omega)]; omega)]
  have h5 := nms_5 hP
  have hfin : ∀ v : Nat, (if x ∈ P then nix (nms P) x else (nms P).length) = v → ∃ s' : Mm, fJX12_namesSide_9_107 (M h s) (h + 308) (h + t) x2 x4 x5 (i32 (q : Int)) (i32 (x : Int)) (i32 (v : Int)) (i32 (x : Int)) (h + 321) = some (.inl (i32 ((q + 1 : Nat) : Int), M h s')) ∧ NR s' t (P ++ [x]) ∧ NF s s' t := by
    intro v hv
    unfold fJX12_namesSide_9_107
    have m1 : ∀ f : Nat → Int32, (mI s 321 f).1 308 = s.1 308 := fun f => mI_ne (by decide)
    have m2 : ∀ f g : Nat → Int32, (mI (mI s 321 f) t g).1 308 = s.1 308 := fun f g => by rw [mI_ne (Ne.symm hne.1), mI_ne (by decide)]
    have m3 : ∀ f : Nat → Int32, (mI s 321 f).1 t = s.1 t := fun f => mI_ne hne.2
    rw [s_321 (by omega) (by omega), sb, tn0, g_308_39, sb, m1, n2, g_308_36, sb, a_321 (by omega) (by omega), tn0, sb, mI_at, upd_at, hst _ _ _ (by omega) (by omega), sb, tn0, g_308_39, sb, m3, m2, n2, q1, a32, w_308_39, sb, xlet_eq, a32, m2]
    refine ⟨_, rfl, ⟨?_, ?_, ?_⟩, ?_, rfl, ?_⟩
    · intro y hy
      rw [mI_ne (by decide), mI_ne (Ne.symm hne.2), mI_at, nms_snoc]
      unfold nmv
      by_cases cy : y = x
      · subst cy
        rw [upd_at, if_pos (addN_mem.mpr (Or.inr rfl)), nix_self, ← hv]
        by_cases cp : y ∈ P
        · rw [if_pos cp, if_pos (nms_mem.mpr cp)]
        · rw [if_neg cp, if_neg (fun hm => cp (nms_mem.mp hm))]
      · rw [upd_ne cy, n1 y hy]
        unfold nmv
        by_cases cm : y ∈ nms P
        · rw [if_pos cm, if_pos (addN_mem.mpr (Or.inl cm)), nix_add cm]
        · rw [if_neg cm, if_neg (fun hm => (addN_mem.mp hm).elim cm cy)]
    · rw [mI_at, upd_at, List.length_append]; rfl
    · intro j hj
      rw [List.length_append, show [x].length = 1 from rfl] at hj
      rw [mI_ne hne.1, mI_at, cnn_snoc, hv]
      by_cases cj : j = P.length
      · subst cj
        have := cnn_len P
        rw [upd_at]
        conv => rhs; rw [← this]
        rw [getD_app2]
      · rw [upd_ne cj, n3 j (by omega), getD_app1 (by rw [cnn_len]; omega)]
    · intro i a b d
      rw [mI_ne a, mI_ne d, mI_ne b]
    · intro j hj
      rw [mI_at, upd_ne hj]
  unfold fJX12_namesSide_9_34
  rw [r_let hw hk, sb, ltr_of hk, he, hcnt, sb, g_308_36, sb, sb, a_321 (by omega) (by omega), tn0, sb, n1 x hx]
  by_cases cp : x ∈ P
  · have hm := nms_mem.mpr cp
    have := nix_lt hm
    have env : nmv (nms P) x = (nix (nms P) x : Int) := by unfold nmv; rw [if_pos hm]
    rw [env, if_neg (by rw [qm1]; rw [eq32 (by omega) (by omega) (by omega) (by omega)]; omega), sb, a_321 (by omega) (by omega), tn0, sb, n1 x hx, env]
    exact hfin _ (by rw [if_pos cp])
  · have hm : x ∉ nms P := fun hm => cp (nms_mem.mp hm)
    have env : nmv (nms P) x = -1 := by unfold nmv; rw [if_neg hm]
    rw [env, if_pos (show i32 (-1) = -1 from by decide)]
    exact hfin _ (by rw [if_neg cp])
/-- a side, ahead or backwards -/
def tnd (b : Bool) (w : List Nat) : List Nat := if b then w.reverse else w
theorem tnd_len (b : Bool) (w : List Nat) : (tnd b w).length = w.length := by
  unfold tnd; split
  · exact List.length_reverse
  · rfl
theorem tnd_get {b : Bool} {w : List Nat} {k : Nat} (hk : k < w.length) : (tnd b w).getD k 0 = w.getD (if b then w.length - 1 - k else k) 0 := by
  unfold tnd
  cases b with
  | false => rfl
  | true =>
    simp only [if_true]
    rw [List.getD_eq_getElem?_getD, List.getD_eq_getElem?_getD, List.getElem?_reverse hk]
theorem r_side (ht : t = 322 ∨ t = 323) {P w : List Nat} (hN : NR s t P) (hP : ∀ x ∈ P, x < 5) (hw : Ww w) (hl : P.length + w.length ≤ 32) (b : Bool) : ∃ s' : Mm, fX12_namesSide (M h s) (h + 308) (h + t) (i64 (r6 w : Int)) (i32 (b32i b)) = some (M h s') ∧ NR s' t (P ++ tnd b w) ∧ NF s s' t := by
  have h16 := hw.1
  have htl := tnd_len b w
  have key : ∀ (d k : Nat) (s1 : Mm), k + d = w.length → NR s1 t (P ++ (tnd b w).take k) → NF s s1 t → ∃ s' : Mm, iterP (fLX12_namesSide_9 (h + 308) (h + t) (i64 (r6 w : Int)) (i32 (b32i b)) (i32 (w.length : Int))) (i32 (k : Int), M h s1) = some (M h s') ∧ NR s' t (P ++ tnd b w) ∧ NF s s' t := by
    intro d
    induction d with
    | zero =>
      intro k s1 hk hN1 hF1
      rw [List.take_of_length_le (by omega)] at hN1
      refine ⟨s1, ?_, hN1, hF1⟩
      rw [iterP_eq]
      unfold fLX12_namesSide_9
      rw [if_pos (by rw [le32 (by omega) (by omega) (by omega) (by omega)]; omega)]; rfl
    | succ d ih =>
      intro k s1 hk hN1 hF1
      have hkl : k < w.length := by omega
      have hx5 : (tnd b w).getD k 0 < 5 := by
        rw [tnd_get hkl]
        exact getD_lt hw.2 (by split <;> omega)
      have htk : (tnd b w).take (k + 1) = (tnd b w).take k ++ [(tnd b w).getD k 0] := by
        rw [List.take_succ_eq_append_getElem (by omega), List.getD_eq_getElem?_getD, List.getElem?_eq_getElem (by omega)]; rfl
      have hPk : ∀ x ∈ P ++ (tnd b w).take k, x < 5 := fun x hx => by
        rcases List.mem_append.mp hx with hx | hx
        · exact hP x hx
        · have := List.mem_of_mem_take hx
          unfold tnd at this
          split at this
          · exact hw.2 x (List.mem_reverse.mp this)
          · exact hw.2 x this
      obtain ⟨s2, z1, z2, z3⟩ := r_side1 (h := h) ht hN1 hPk hx5 (by rw [List.length_append, List.length_take]; omega) hw (k := if b then w.length - 1 - k else k) (q := k) (by split <;> omega) (by omega) (tnd_get hkl).symm (x2 := i64 (r6 w : Int)) (x4 := i32 (b32i b)) (x5 := i32 (w.length : Int))
      rw [List.append_assoc, ← htk] at z2
      obtain ⟨s', y1, y2⟩ := ih (k + 1) s2 (by omega) z2 (hF1.tr z3)
      refine ⟨s', ?_, y2⟩
      rw [iter_inl (x' := (i32 ((k + 1 : Nat) : Int), M h s2)), y1]
      unfold fLX12_namesSide_9
      rw [if_neg (by rw [le32 (by omega) (by omega) (by omega) (by omega)]; omega)]
      cases b with
      | false =>
        rw [if_pos (show i32 (b32i false) = 0 from by decide)]
        exact z1
      | true =>
        rw [if_neg (show ¬ i32 (b32i true) = 0 from by decide), q1, s32, s32, show ((w.length : Int) - 1 - (k : Int)) = ((w.length - 1 - k : Nat) : Int) by omega]
        exact z1
  obtain ⟨s', z1, z2⟩ := key w.length 0 s (by omega) (by rw [List.take_zero, List.append_nil]; exact hN) NF.rf
  refine ⟨s', ?_, z2⟩
  have z1 : iterP _ ((0 : Int32), M h s) = _ := z1
  unfold fX12_namesSide
  rw [r_len hw, sb, z1, sb]
theorem r_clear {F : Int32 × St → Option ((Int32 × St) ⊕ St)} (hF : ∀ a : Int32 × St, F a = if ((5 : Int32)) ≤ a.1 then (some (Sum.inr a.2)) else ((gR a.2 (h + 308) 11 36).bind fun v10 => (sI a.2 v10 a.1 (-1)).bind fun σ16 => xlet (a.1 + 1) fun v17 => some (Sum.inl (v17, σ16)))) : ∃ f : Nat → Int32, iterP F (0, M h s) = some (M h (mI s 321 f)) ∧ ∀ x, x < 5 → f x = i32 (-1) := by
  refine ⟨fun j => if j < 5 then i32 (-1) else s.1 321 j, ?_, fun x hx => if_pos hx⟩
  rw [iter_to 5 (fun k => (i32 (k : Int), M h (mI s 321 (fun j => if j < k then i32 (-1) else s.1 321 j)))) ?_ ?_ ?_ (b := M h (mI s 321 (fun j => if j < 5 then i32 (-1) else s.1 321 j)))]
  · have : mI s 321 (fun j => if j < 0 then i32 (-1) else s.1 321 j) = s := by
      unfold mI
      refine Prod.ext ?_ rfl
      funext a
      by_cases c : a = 321
      · subst c; simp
      · simp [c]
    rw [this]; rfl
  · intro k hk
    rw [hF, if_neg (by rw [q5]; rw [le32 (by omega) (by omega) (by omega) (by omega)]; omega), g_308_36, sb, s_321 (by omega) (by omega), sb, xlet_eq, q1, a32, tn0, mI_mI, mI_at]
    have : upd (fun j => if j < k then i32 (-1) else s.1 321 j) k (-i32 1) = (fun j => if j < k + 1 then i32 (-1) else s.1 321 j) := by
      funext j
      unfold upd
      by_cases c : j = k
      · rw [if_pos c, if_pos (by omega)]; rfl
      · rw [if_neg c]
        by_cases c2 : j < k
        · simp only [c2, if_true]; rw [if_pos (by omega)]
        · simp only [c2, if_false]; rw [if_neg (by omega)]
    rw [this]; rfl
  · rw [hF, if_pos (by rw [q5]; rw [le32 (by omega) (by omega) (by omega) (by omega)]; omega)]
theorem r_laysHead (hS : WfS S) (hR : RR (s.2 309) S) (ht : t = 322 ∨ t = 323) {r : Nat} (hr : r < nr S) (b : Bool) : ∃ s' : Mm, fX12_laysHead (M h s) (h + 308) (h + t) (i32 (r : Int)) (i32 (b32i b)) = some (M h s') ∧ NR s' t (tnd b (rl S r) ++ tnd b (rr S r)) ∧ NF s s' t := by
  have hl := wl hS hr
  have hrr := wr hS hr
  obtain ⟨f, f1, f2⟩ := r_clear (h := h) (s := s) (F := fLX12_laysHead_3 (h + 308) (h + t) (i32 (r : Int)) (i32 (b32i b))) (fun a => rfl)
  have hN0 : NR (mI (mI s 321 f) 308 (upd (s.1 308) 39 0)) t [] := ⟨fun x hx => by rw [mI_ne (by decide), mI_at, f2 x hx]; rfl, by rw [mI_at, upd_at]; rfl, fun j hj => absurd hj (by simp)⟩
  have hF0 : NF s (mI (mI s 321 f) 308 (upd (s.1 308) 39 0)) t := ⟨fun i a d _ => by rw [mI_ne a, mI_ne d], rfl, fun j hj => by rw [mI_at, upd_ne hj]⟩
  have htl : ∀ x ∈ tnd b (rl S r), x < 5 := fun x hx => by
    unfold tnd at hx
    split at hx
    · exact hl.2 x (List.mem_reverse.mp hx)
    · exact hl.2 x hx
  obtain ⟨s1, z1, z2, z3⟩ := r_side (h := h) ht hN0 (fun x hx => (by cases hx)) hl (by have := hl.1; simp; omega) b
  rw [List.nil_append] at z2
  have hR1 : RR (s1.2 309) S := by rw [z3.2.1, hF0.2.1]; exact hR
  have hR0 : RR ((mI (mI s 321 f) 308 (upd (s.1 308) 39 0)).2 309) S := hR
  obtain ⟨s2, y1, y2, y3⟩ := r_side (h := h) ht z2 htl hrr (by rw [tnd_len]; have := hl.1; have := hrr.1; omega) b
  refine ⟨s2, ?_, y2, (hF0.tr z3).tr y3⟩
  unfold fX12_laysHead
  rw [f1, sb, w_308_39, sb, mI_ne (by decide), o_308, sb, r_left hS hR0 hr, sb, sb, z1, sb, o_308, sb, r_right hS hR1 hr, sb, sb, y1, sb]
end RF
