/-! HEADS in the class -/
theorem nms_nd (A : List Nat) : (nms A).Nodup := by
  have key : ∀ (l ns : List Nat), ns.Nodup → (l.foldl addN ns).Nodup := by
    intro l
    induction l with
    | nil => intro ns h; exact h
    | cons x l ih =>
      intro ns h
      rw [List.foldl_cons]
      refine ih _ ?_
      unfold addN
      split
      · exact h
      · rename_i hx
        rw [List.nodup_append]
        exact ⟨h, by simp, fun a ha b hb e => hx (by rw [← List.mem_singleton.mp hb, ← e]; exact ha)⟩
  exact key A [] List.nodup_nil
theorem nms_5 {A : List Nat} (hA : ∀ x ∈ A, x < 5) : (nms A).length ≤ 5 := by
  refine pigeon 5 (nms A).length (fun q => (nms A).getD q 0) (fun q hq => hA _ (nms_mem.mp (getD_mem hq))) (fun q q' hq hq' he => ?_)
  simp only [List.getD_eq_getElem?_getD, List.getElem?_eq_getElem hq, List.getElem?_eq_getElem hq', Option.getD_some] at he
  exact (List.getElem?_inj hq (nms_nd A)).mp (by rw [List.getElem?_eq_getElem hq, List.getElem?_eq_getElem hq', he])
theorem cnn_5 {A : List Nat} (hA : ∀ x ∈ A, x < 5) : ∀ y ∈ cnn A, y < 5 := by
  intro y hy
  unfold cnn at hy
  obtain ⟨x, hx, rfl⟩ := List.mem_map.mp hy
  have := nms_5 hA
  have := nix_lt (nms_mem.mpr hx)
  omega
theorem cnn_pre (P Q : List Nat) : (cnn (P ++ Q)).take P.length = cnn P := by
  have key : ∀ (n : Nat) (Q : List Nat), Q.length = n → (cnn (P ++ Q)).take P.length = cnn P := by
    intro n
    induction n with
    | zero => intro Q hQ; rw [List.length_eq_zero_iff.mp hQ, List.append_nil, List.take_of_length_le (by rw [cnn_len]; exact Nat.le_refl _)]
    | succ n ih =>
      intro Q hQ
      rcases List.eq_nil_or_concat Q with rfl | ⟨Q', x, hQ'⟩
      · simp at hQ
      · rw [List.concat_eq_append] at hQ'
        subst hQ'
        rw [List.length_append] at hQ
        rw [← List.append_assoc, cnn_snoc, List.take_append_of_le_length (by rw [cnn_len, List.length_append]; omega)]
        exact ih Q' (by simpa using hQ)
  exact key Q.length Q rfl
def Hc (c : Nat) : Prop := c + 1 < 300 ∧ 10 < c ∧ sh c = .inr (4, [c + 1 + 2, 0, 1, 1]) ∧ sh (c + 1) = .inl (0, 5)
theorem hc1 : Hc 277 := ⟨by decide, by decide, by decide +kernel, by decide +kernel⟩
theorem hc2 : Hc 279 := ⟨by decide, by decide, by decide +kernel, by decide +kernel⟩
section HC
variable {h c : Nat} {s : Mm} {e : Int}
theorem hc_o (H : Hc c) : isO (M h s) (h + c) 4 = some () := isO_M H.2.2.1 (by have := H.1; omega)
theorem hc_0 (H : Hc c) : gR (M h s) (h + c) 4 0 = some (h + (c + 1)) := gR_M H.2.2.1 rfl (by have := H.1; omega) (by have := H.1; omega)
theorem hc_1 (H : Hc c) : gI (M h s) (h + c) 4 1 = some (s.1 c 1) := gI_M H.2.2.1 rfl (by have := H.1; omega)
theorem hc_2 (H : Hc c) : gL (M h s) (h + c) 4 2 = some (s.2 c 2) := gL_M H.2.2.1 rfl (by have := H.1; omega)
theorem hc_3 (H : Hc c) : gL (M h s) (h + c) 4 3 = some (s.2 c 3) := gL_M H.2.2.1 rfl (by have := H.1; omega)
theorem hcw_1 (H : Hc c) {v : Int32} : wrF (M h s) (h + c) 4 1 (.int v) = some (M h (mI s c (upd (s.1 c) 1 v))) := wI_M H.2.2.1 rfl (by have := H.1; omega)
theorem hcw_2 (H : Hc c) {v : Int64} : wrF (M h s) (h + c) 4 2 (.long v) = some (M h (mL s c (vp_updL (s.2 c) 2 v))) := wL_M H.2.2.1 rfl (by have := H.1; omega)
theorem hcw_3 (H : Hc c) {v : Int64} : wrF (M h s) (h + c) 4 3 (.long v) = some (M h (mL s c (vp_updL (s.2 c) 3 v))) := wL_M H.2.2.1 rfl (by have := H.1; omega)
theorem hca (H : Hc c) (h1 : 0 ≤ e) (h2 : e < 5) : aI (M h s) (h + (c + 1)) 0 (i32 e) = some (s.1 (c + 1) e.toNat) := aI_M H.2.2.2 (by have := H.1; omega) (by decide) h1 h2 (by decide)
theorem hcs (H : Hc c) {v : Int32} (h1 : 0 ≤ e) (h2 : e < 5) : sI (M h s) (h + (c + 1)) (i32 e) v = some (M h (mI s (c + 1) (upd (s.1 (c + 1)) e.toNat v))) := sI_M H.2.2.2 (by have := H.1; omega) h1 h2 (by decide)
def nmv (ns : List Nat) (x : Nat) : Int := if x ∈ ns then (nix ns x : Int) else -1
def NM (s : Mm) (c : Nat) (ns : List Nat) : Prop := (∀ x, x < 5 → s.1 (c + 1) x = i32 (nmv ns x)) ∧ s.1 c 1 = i32 (ns.length : Int)
theorem c_forget (H : Hc c) : ∃ s' : Mm, fX4_forgetNames (M h s) (h + c) = some (M h s') ∧ NM s' c (nms []) ∧ Fr c (c + 1) s s' ∧ s'.2 = s.2 := by
  obtain ⟨f, f1, f2⟩ := c_fill (h := h) (s := s) H.2.2.2 (by have := H.1; omega) (by decide) (-1)
  unfold fX4_forgetNames
  rw [hc_0 H, sb, f1, sb, hcw_1 H, sb]
  refine ⟨_, rfl, ⟨fun x hx => ?_, ?_⟩, (Fr.rf.mI (by omega) (by omega)).mI (by omega) (by omega), rfl⟩
  · rw [mI_ne (by omega), mI_at, f2 x hx]
    show (-1 : Int32) = i32 (-1)
    decide
  · rw [mI_at, upd_at]; rfl
theorem c_rename (H : Hc c) {P w : List Nat} (hN : NM s c (nms P)) (hP : ∀ x ∈ P, x < 5) (hw : Ww w) : ∃ s' : Mm, fX4_rename (M h s) (h + c) (i64 (cw w : Int)) = some (i64 (cw ((cnn (P ++ w)).drop P.length) : Int), M h s') ∧ NM s' c (nms (P ++ w)) ∧ Fr c (c + 1) s s' ∧ s'.2 = s.2 := by
  have h16 := hw.1
  have hin : ∀ k, ∀ x ∈ P ++ w.take k, x < 5 := fun k x hx => by
    rcases List.mem_append.mp hx with hx | hx
    · exact hP x hx
    · exact hw.2 x (List.mem_of_mem_take hx)
  have hWk : ∀ k, Ww ((cnn (P ++ w.take k)).drop P.length) := fun k => by
    refine ⟨?_, fun x hx => cnn_5 (hin k) x (List.mem_of_mem_drop hx)⟩
    rw [List.length_drop, cnn_len, List.length_append, List.length_take]; omega
  have key : ∀ (d k : Nat) (s1 : Mm), k + d = w.length → NM s1 c (nms (P ++ w.take k)) → Fr c (c + 1) s s1 → s1.2 = s.2 → ∃ s' : Mm, iterP (fLX4_rename_5 (h + c) (i64 (cw w : Int))) (i64 (cw ((cnn (P ++ w.take k)).drop P.length) : Int), i32 (k : Int), M h s1) = some (i64 (cw ((cnn (P ++ w)).drop P.length) : Int), M h s') ∧ NM s' c (nms (P ++ w)) ∧ Fr c (c + 1) s s' ∧ s'.2 = s.2 := by
    intro d
    induction d with
    | zero =>
      intro k s1 hk hN1 hF1 h2
      have hk : k = w.length := by omega
      subst hk
      rw [List.take_length] at *
      refine ⟨s1, ?_, hN1, hF1, h2⟩
      rw [iterP_eq]
      unfold fLX4_rename_5
      rw [c_len hw, sb, if_pos (by rw [le32 (by omega) (by omega) (by omega) (by omega)]; omega)]; rfl
    | succ d ih =>
      intro k s1 hk hN1 hF1 h2
      have hkl : k < w.length := by omega
      have hx := getD_lt hw.2 hkl
      generalize hxe : w.getD k 0 = x at *
      have htk : w.take (k + 1) = w.take k ++ [x] := by
        rw [List.take_succ_eq_append_getElem hkl, ← hxe, List.getD_eq_getElem?_getD, List.getElem?_eq_getElem hkl]; rfl
      have hap : P ++ w.take (k + 1) = (P ++ w.take k) ++ [x] := by rw [htk, List.append_assoc]
      have hcn : (cnn (P ++ w.take (k + 1))).drop P.length = (cnn (P ++ w.take k)).drop P.length ++ [if x ∈ P ++ w.take k then nix (nms (P ++ w.take k)) x else (nms (P ++ w.take k)).length] := by
        rw [hap, cnn_snoc, List.drop_append_of_le_length (by rw [cnn_len, List.length_append]; omega)]
      have hlen : ((cnn (P ++ w.take k)).drop P.length).length = k := by
        rw [List.length_drop, cnn_len, List.length_append, List.length_take]; omega
      have hn5 := nms_5 (hin k)
      have hv5 : (if x ∈ P ++ w.take k then nix (nms (P ++ w.take k)) x else (nms (P ++ w.take k)).length) < 5 := by
        have := (hWk (k + 1)).2 (if x ∈ P ++ w.take k then nix (nms (P ++ w.take k)) x else (nms (P ++ w.take k)).length) (by rw [hcn]; simp)
        exact this
      generalize hve : (if x ∈ P ++ w.take k then nix (nms (P ++ w.take k)) x else (nms (P ++ w.take k)).length) = v at *
      have hjn : ∀ s2 : Mm, s2.1 (c + 1) x = i32 (v : Int) → fJX4_rename_5_54 (M h s2) (h + c) (i64 (cw w : Int)) (i64 (cw ((cnn (P ++ w.take k)).drop P.length) : Int)) (i32 (k : Int)) (i32 (x : Int)) = some (.inl (i64 (cw ((cnn (P ++ w.take (k + 1))).drop P.length) : Int), i32 ((k + 1 : Nat) : Int), M h s2)) := by
        intro s2 hv
        unfold fJX4_rename_5_54
        rw [hc_0 H, sb, hca H (by omega) (by omega), tn0, sb, hv, c_longer (hWk k) hv5 (by omega), sb, xlet_eq, q1, a32, hcn]; rfl
      by_cases cx : x ∈ P ++ w.take k
      · have hmem := nms_mem.mpr cx
        rw [if_pos cx] at hve
        have hN2 : NM s1 c (nms (P ++ w.take (k + 1))) := by
          rw [hap, nms_snoc]
          unfold addN
          rw [if_pos hmem]; exact hN1
        obtain ⟨s', z1, z2⟩ := ih (k + 1) s1 (by omega) hN2 hF1 h2
        refine ⟨s', ?_, z2⟩
        have hval : s1.1 (c + 1) x = i32 (v : Int) := by
          rw [hN1.1 x hx]
          unfold nmv
          rw [if_pos hmem, hve]
        rw [iter_inl (x' := (i64 (cw ((cnn (P ++ w.take (k + 1))).drop P.length) : Int), i32 ((k + 1 : Nat) : Int), M h s1)), z1]
        unfold fLX4_rename_5
        rw [c_len hw, sb, if_neg (by rw [le32 (by omega) (by omega) (by omega) (by omega)]; omega), c_let hw (by omega), sb, ltr_of hkl, hxe, hc_0 H, sb, hca H (by omega) (by omega), tn0, sb, hval, if_neg (by rw [qm1]; rw [eq32 (by omega) (by omega) (by omega) (by omega)]; omega)]
        exact hjn s1 hval
      · have hmem : x ∉ nms (P ++ w.take k) := fun hm => cx (nms_mem.mp hm)
        rw [if_neg cx] at hve
        have hN2 : NM (mI (mI s1 (c + 1) (upd (s1.1 (c + 1)) x (i32 (v : Int)))) c (upd (s1.1 c) 1 (i32 ((v : Int) + 1)))) c (nms (P ++ w.take (k + 1))) := by
          rw [hap, nms_snoc]
          refine ⟨fun y hy => ?_, ?_⟩
          · rw [mI_ne (by omega), mI_at]
            unfold nmv addN
            rw [if_neg hmem]
            by_cases cy : y = x
            · subst cy
              rw [upd_at, if_pos (by simp), nix_new hmem, hve]
            · rw [upd_ne cy, hN1.1 y hy]
              unfold nmv
              by_cases cm : y ∈ nms (P ++ w.take k)
              · rw [if_pos cm, if_pos (by simp [cm]), nix_app1 cm]
              · rw [if_neg cm, if_neg (by simp [cm, cy])]
          · rw [mI_at, upd_at]
            unfold addN
            rw [if_neg hmem, List.length_append, hve]; rfl
        obtain ⟨s', z1, z2⟩ := ih (k + 1) _ (by omega) hN2 ((hF1.mI (by omega) (by omega)).mI (by omega) (by omega)) h2
        refine ⟨s', ?_, z2⟩
        rw [iter_inl (x' := (i64 (cw ((cnn (P ++ w.take (k + 1))).drop P.length) : Int), i32 ((k + 1 : Nat) : Int), M h (mI (mI s1 (c + 1) (upd (s1.1 (c + 1)) x (i32 (v : Int)))) c (upd (s1.1 c) 1 (i32 ((v : Int) + 1)))))), z1]
        unfold fLX4_rename_5
        have hval : s1.1 (c + 1) x = i32 (-1) := by
          rw [hN1.1 x hx]
          unfold nmv
          rw [if_neg hmem]
        have hnm : s1.1 c 1 = i32 (v : Int) := by rw [hN1.2, hve]
        rw [c_len hw, sb, if_neg (by rw [le32 (by omega) (by omega) (by omega) (by omega)]; omega), c_let hw (by omega), sb, ltr_of hkl, hxe, hc_0 H, sb, hca H (by omega) (by omega), tn0, sb, hval, if_pos (show i32 (-1) = -1 from by decide), sb, hc_1 H, sb, hnm, hcs H (by omega) (by omega), sb, tn0, hc_1 H, sb, mI_ne (by omega), hnm, q1, a32, hcw_1 H, sb, mI_ne (by omega)]
        refine (congrArg id (hjn _ (by rw [mI_ne (by omega), mI_at, upd_at]))).trans ?_
        rfl
  have e0 : (cnn (P ++ w.take 0)).drop P.length = [] := by
    rw [List.take_zero, List.append_nil, List.drop_of_length_le (by rw [cnn_len]; exact Nat.le_refl _)]
  obtain ⟨s', z1, z2⟩ := key w.length 0 s (by omega) (by rw [List.take_zero, List.append_nil]; exact hN) Fr.rf rfl
  rw [e0, cw_nil] at z1
  refine ⟨s', ?_, z2⟩
  have z1 : iterP _ ((0 : Int64), (0 : Int32), M h s) = _ := z1
  unfold fX4_rename
  rw [z1, sb]
theorem c_back {w : List Nat} (hw : Ww w) : fX10_backwards (i64 (cw w : Int)) = some (i64 (cw w.reverse : Int)) := by
  have h16 := hw.1
  have hWt : ∀ k, Ww (w.drop k).reverse := fun k => ⟨by rw [List.length_reverse, List.length_drop]; omega, fun x hx => hw.2 x (List.mem_of_mem_drop (List.mem_reverse.mp hx))⟩
  have key : ∀ k : Nat, k ≤ w.length → iterP (fLX10_backwards_10 (i64 (cw w : Int))) (i64 (cw (w.drop k).reverse : Int), i32 ((k : Int) - 1)) = some (i64 (cw w.reverse : Int)) := by
    intro k
    induction k with
    | zero =>
      intro _
      rw [iterP_eq]
      unfold fLX10_backwards_10
      rw [if_pos (by rw [q0]; rw [lt32 (by omega) (by omega) (by omega) (by omega)]; omega)]; rfl
    | succ k ih =>
      intro hk
      have hx := getD_lt hw.2 (show k < w.length by omega)
      have hd : w.drop k = w.getD k 0 :: w.drop (k + 1) := by
        rw [List.drop_eq_getElem_cons (by omega), List.getD_eq_getElem?_getD, List.getElem?_eq_getElem (by omega)]; rfl
      rw [iter_inl (x' := (i64 (cw (w.drop k).reverse : Int), i32 ((k : Int) - 1))), ih (by omega)]
      unfold fLX10_backwards_10
      rw [show (((k + 1 : Nat) : Int) - 1) = (k : Int) by omega, if_neg (by rw [q0]; rw [lt32 (by omega) (by omega) (by omega) (by omega)]; omega), c_let hw (by omega), sb, ltr_of (by omega), c_longer (hWt (k + 1)) hx (by rw [List.length_reverse, List.length_drop]; omega), sb, xlet_eq, qm1, a32, hd, List.reverse_cons]; rfl
  unfold fX10_backwards
  have := key w.length (Nat.le_refl _)
  rw [List.drop_length, List.reverse_nil, cw_nil] at this
  rw [c_len hw, sb, q1, s32, xlet_eq, this, sb]
end HC
